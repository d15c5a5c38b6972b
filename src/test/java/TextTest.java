import java.math.BigInteger;
import java.util.Arrays;
import java.util.Set;
import java.util.TreeSet;

/** Promises 1 to 7: a new object, the text, the result, and the calls that make the one of the other. */
public final class TextTest {
    private static final int THROWN = Both.THROWN;
    private static final int MIN = Integer.MIN_VALUE;
    private static final int MAX = Integer.MAX_VALUE;
    private static final String ZERO = "00".repeat(32);
    /** 0, 1, 2 .. times BASE, of RFC 9496. */
    private static final String[] MULTIPLES = {
        ZERO,
        "e2f2ae0a6abc4e71a884a961c500515f58e30b6aa582dd8db6a65945e08d2d76",
        "6a493210f7499cd17fecb510ae0cea23a110e8d5b901f8acadd3095c73a3b919",
        "94741f5d5d52755ece4f23f044ee27d5d1ea1e2bd196b462166b16152a9d0259",
        "da80862773358b466ffadfe0b3293ab3d9fd53c5ea6c955358f568322daf6a57",
        "e882b131016b52c1d3337080187cf768423efccbb517bb495ab812c4160ff44e",
    };
    private static final String BASE = MULTIPLES[1];
    private static final String ABC =
        "ddaf35a193617abacc417349ae20413112e6fa4e89a97ea20a9eeee64b55d39a"
        + "2192992a274fc1a836ba3c23a3feebbd454d4423643ce80e2a9ac94fa54ca49f";

    public static void main(String[] args) {
        Suite suite = new Suite("TextTest", args);
        newObject(suite);
        feed(suite);
        feedRefused(suite);
        end(suite);
        endRefused(suite);
        hash(suite);
        usedUp(suite);
        notUsedUp(suite);
        group(suite);
        times(suite);
        timesScalars(suite);
        timesRefused(suite);
        timesNoPoint(suite);
        result(suite);
        suite.close();
    }

    private static Both fresh() {
        return new Both("a gate", 7);
    }

    private static void due(String what, long got, long want) {
        Both.due(what, got, want);
    }

    private static void due(String what, boolean got, boolean want) {
        Both.due(what, got, want);
    }

    private static void due(String what, String got, String want) {
        Both.due(what, got, want);
    }

    /** n bytes, each unlike its neighbours. */
    private static byte[] some(int n) {
        byte[] out = new byte[n];
        for (int i = 0; i < n; i++) {
            out[i] = (byte) (7 * i + 129);
        }
        return out;
    }

    private static String hashOf(byte[] bytes) {
        return Both.digits(Oracle.hash(bytes));
    }

    /** A gate whose text has n bytes. */
    private static Both holding(int n) {
        Both x = fresh();
        x.text(some(n));
        return x;
    }

    /** The text has just these bytes (and is used up by looking). */
    private static void dueText(String what, Both x, byte[] bytes) {
        // asked first, since an end that is true cuts off what there is more
        due(what + ": no more bytes", x.end(bytes.length + 1), false);
        due(what + ": so many bytes", x.end(bytes.length), true);
        x.hash();
        due(what + ": these bytes", x.resultHex(), hashOf(bytes));
    }

    private static void newObject(Suite suite) {
        suite.test("1: no user is enrolled", () -> {
            for (int user = 0; user < 8; user++) {
                Both x = fresh();
                due("begin", x.begin(0, user), 0);
                due("answer", x.answer(0), 0);
                due("the envelope of nobody does not open", x.finish(0), 3);
            }
        });
        suite.test("1: no session", () -> {
            Both x = fresh();
            for (int session = 0; session < 4; session++) {
                due("answer", x.answer(session), 2);
                due("finish", x.finish(session), 2);
                due("accept", x.accept(session), 2);
                for (int message = 1; message <= 3; message++) {
                    due("wire", x.wire(session, message, 0), THROWN);
                    due("tamper", x.tamper(session, message, 0, 1), false);
                }
                for (int side = 0; side <= 2; side++) {
                    due("key", x.key(session, side, 0), THROWN);
                }
            }
        });
        suite.test("1: the text is empty", () -> dueText("the text", fresh(), new byte[0]));
        suite.test("1: there is no result", () -> due("result", fresh().result(0), THROWN));
        suite.test("1: every seed is a seed", () -> {
            for (int seed : new int[] {0, 1, -1, 255, 256, 65536, 1 << 24, MIN, MAX}) {
                Both x = new Both("a gate", seed);
                due("begin", x.begin(0, 0), 0);
                due("answer", x.answer(0), 0);
                x.wireHex(0, 1);
                x.wireHex(0, 2);
            }
        });
        suite.test("1: two objects have nothing in common", () -> {
            Both x = fresh();
            Both y = fresh();
            x.text("abc");
            dueText("the other's text", y, new byte[0]);
            x.enroll(2);
            y.begin(1, 2);
            due("no session", x.answer(1), 2);
            due("not enrolled", y.answer(1), 0);
            due("not enrolled", y.finish(1), 3);
            x.begin(1, 2);
            x.lookAll();
            y.lookAll();
        });
        suite.test("the public face: NONE is -1", () -> due("NONE", PasswordGate.NONE, -1));
    }

    private static void feed(Suite suite) {
        suite.test("2: appends twenty bytes", () -> {
            Both x = fresh();
            due("feed", x.feed(0, 0, 0, 0, 0), true);
            dueText("the text", x, new byte[20]);
        });
        suite.test("2: of each number the highest first", () -> {
            Both x = fresh();
            due("feed", x.feed(0x01020304, 0x05060708, 0x090a0b0c, 0x0d0e0f10, 0x11121314), true);
            dueText("the text", x, Both.bytes("0102030405060708090a0b0c0d0e0f1011121314"));
        });
        suite.test("2: the highest and the lowest numbers", () -> {
            Both x = fresh();
            due("feed", x.feed(MAX, MIN, -1, 255, -256), true);
            dueText("the text", x, Both.bytes("7fffffff80000000ffffffff000000ffffffff00"));
        });
        suite.test("2: appends behind what is there", () -> {
            Both x = fresh();
            x.feed(1, 2, 3, 4, 5);
            x.feed(6, 7, 8, 9, 10);
            byte[] both = new byte[40];
            for (int i = 0; i < 10; i++) {
                both[4 * i + 3] = (byte) (i + 1);
            }
            dueText("the text", x, both);
        });
        suite.test("2: 200 bytes are not more than 200", () -> {
            Both x = fresh();
            for (int i = 1; i <= 10; i++) {
                due("feed " + i, x.feed(i, i, i, i, i), true);
                due("so many bytes", x.end(20 * i), true);
            }
            due("full", x.end(200), true);
        });
        suite.test("2: 180 and twenty are not more than 200", () -> {
            Both x = holding(180);
            due("feed", x.feed(1, 2, 3, 4, 5), true);
            due("full", x.end(200), true);
        });
    }

    private static void feedRefused(Suite suite) {
        suite.test("2: false when it would have more than 200: a full text", () -> {
            Both x = holding(200);
            due("feed", x.feed(1, 2, 3, 4, 5), false);
            due("feed once more", x.feed(1, 2, 3, 4, 5), false);
        });
        suite.test("2: false when it would have more than 200: 181 and twenty", () ->
            due("feed", holding(181).feed(1, 2, 3, 4, 5), false));
        suite.test("2: false when it would have more than 200: 199 and twenty", () ->
            due("feed", holding(199).feed(1, 2, 3, 4, 5), false));
        suite.test("2: false, changing nothing: the full text stays", () -> {
            Both x = holding(200);
            x.feed(1, 2, 3, 4, 5);
            dueText("the text", x, some(200));
        });
        suite.test("2: false, changing nothing: a text of 181 stays", () -> {
            Both x = holding(181);
            x.feed(1, 2, 3, 4, 5);
            dueText("the text", x, some(181));
        });
        suite.test("2: false, changing nothing: the result stays", () -> {
            Both x = fresh();
            x.text("abc");
            x.hash();
            x.text(some(200));
            x.feed(1, 2, 3, 4, 5);
            due("result", x.resultHex(), ABC);
        });
        suite.test("2: a text that was full takes bytes again when it is cut or used up", () -> {
            Both x = holding(200);
            x.feed(1, 2, 3, 4, 5);
            x.end(180);
            due("cut", x.feed(1, 2, 3, 4, 5), true);
            x.hash();
            due("used up", x.feed(1, 2, 3, 4, 5), true);
            due("it has twenty", x.end(21), false);
        });
    }

    private static void end(Suite suite) {
        suite.test("3: only the first n bytes count", () -> {
            for (int n : new int[] {1, 2, 19, 20, 21, 39}) {
                Both x = holding(40);
                due("end", x.end(n), true);
                dueText("the text", x, some(n));
            }
        });
        suite.test("3: none of the bytes count", () -> {
            Both x = holding(40);
            due("end(0)", x.end(0), true);
            dueText("the text", x, new byte[0]);
        });
        suite.test("3: just as many as it has", () -> {
            Both x = holding(40);
            due("end(40)", x.end(40), true);
            dueText("the text", x, some(40));
            x = holding(200);
            due("end(200)", x.end(200), true);
            dueText("the text", x, some(200));
        });
        suite.test("3: 0 of an empty text", () -> {
            Both x = fresh();
            due("end(0)", x.end(0), true);
            dueText("the text", x, new byte[0]);
        });
        suite.test("3: what does not count is there no more", () -> {
            Both x = holding(40);
            x.end(3);
            due("end(4)", x.end(4), false);
            due("end(3)", x.end(3), true);
        });
        suite.test("3: a feed goes behind the bytes that count", () -> {
            Both x = holding(40);
            x.end(3);
            x.feed(0x01020304, 0x05060708, 0x090a0b0c, 0x0d0e0f10, 0x11121314);
            dueText("the text", x, Oracle.join(some(3), Both.bytes("0102030405060708090a0b0c0d0e0f1011121314")));
        });
    }

    private static void endRefused(Suite suite) {
        suite.test("3: false when it has not so many: one too many", () -> {
            due("of none", fresh().end(1), false);
            due("of 20", holding(20).end(21), false);
            due("of 39", holding(39).end(40), false);
            due("of 200", holding(200).end(201), false);
        });
        suite.test("3: false when it has not so many: the highest n", () -> {
            due("of none", fresh().end(MAX), false);
            due("of 200", holding(200).end(MAX), false);
        });
        suite.test("3: false when n is below 0", () -> {
            due("of none", fresh().end(-1), false);
            due("of 20", holding(20).end(-1), false);
            due("of 200", holding(200).end(-1), false);
        });
        suite.test("3: false when n is below 0: the lowest n", () -> due("end", holding(20).end(MIN), false));
        suite.test("3: false, changing nothing", () -> {
            for (int n : new int[] {34, -1, MIN, MAX}) {
                Both x = holding(33);
                x.end(n);
                dueText("after end(" + n + ")", x, some(33));
            }
        });
    }

    private static void hash(Suite suite) {
        suite.test("4: HASH of the text: 64 bytes", () -> {
            Both x = fresh();
            x.text("abc");
            due("hash", x.hash(), 64);
            due("result", x.resultHex(), ABC);
        });
        suite.test("4: HASH of an empty text", () -> {
            Both x = fresh();
            due("hash", x.hash(), 64);
            due("result", x.resultHex(),
                "cf83e1357eefb8bdf1542850d66d8007d620e4050b5715dc83f4a921d36ce9ce"
                + "47d0d13c5d85f2b0ff8318d2877eec2f63b931bd47417a81a538327af927da3e");
        });
        suite.test("4: HASH of a full text", () -> {
            Both x = holding(200);
            due("hash", x.hash(), 64);
            due("result", x.resultHex(), hashOf(some(200)));
        });
        suite.test("4: 0s up to 16 bytes short of a multiple of 128", () -> {
            for (int n : new int[] {110, 111, 112, 113, 119, 120, 126, 127, 128, 129}) {
                Both x = holding(n);
                x.hash();
                due("HASH of " + n, x.resultHex(), hashOf(some(n)));
            }
        });
        suite.test("4: HASH of every length", () -> {
            for (int n = 0; n <= 200; n++) {
                Both x = holding(n);
                x.hash();
                due("HASH of " + n, x.resultHex(), hashOf(some(n)));
            }
        });
        suite.test("4: is the result, whatever was the result", () -> {
            Both x = fresh();
            x.group();
            x.text("abc");
            x.hash();
            due("result", x.resultHex(), ABC);
        });
    }

    private static void dueUsedUp(String what, Both x) {
        dueText("behind " + what, x, new byte[0]);
    }

    private static void usedUp(Suite suite) {
        suite.test("4: used up by hash", () -> {
            Both x = holding(20);
            x.hash();
            dueUsedUp("hash", x);
        });
        suite.test("4: used up by group", () -> {
            Both x = holding(20);
            x.group();
            dueUsedUp("group", x);
        });
        suite.test("4: used up by times", () -> {
            Both x = fresh();
            x.hex("01" + "00".repeat(31) + BASE + "ff".repeat(40));
            due("times", x.times(), 32);
            dueUsedUp("times", x);
        });
        suite.test("4: used up by times, also if NONE is answered: too few bytes", () -> {
            Both x = holding(63);
            due("times", x.times(), -1);
            dueUsedUp("times", x);
        });
        suite.test("4: used up by times, also if NONE is answered: no point", () -> {
            Both x = fresh();
            x.hex("ff".repeat(100));
            due("times", x.times(), -1);
            dueUsedUp("times", x);
        });
        suite.test("4: used up by enroll", () -> {
            Both x = holding(20);
            x.enroll(0);
            dueUsedUp("enroll", x);
        });
        suite.test("4: used up by enroll, also if NONE is answered", () -> {
            Both x = holding(20);
            due("enroll", x.enroll(8), -1);
            dueUsedUp("enroll", x);
        });
        suite.test("4: used up by begin", () -> {
            Both x = holding(20);
            x.begin(0, 0);
            dueUsedUp("begin", x);
        });
        suite.test("4: used up by begin, also if NONE is answered: another session", () -> {
            Both x = holding(20);
            due("begin", x.begin(4, 0), -1);
            dueUsedUp("begin", x);
        });
        suite.test("4: used up by begin, also if NONE is answered: another user", () -> {
            Both x = holding(20);
            due("begin", x.begin(0, 8), -1);
            dueUsedUp("begin", x);
        });
    }

    private static void notUsedUp(Suite suite) {
        suite.test("4: used up by no call that does not take it", () -> {
            Both x = fresh();
            x.text("pass");
            x.enroll(0);
            x.text("pass");
            x.begin(0, 0);
            x.text(some(77));
            x.answer(0);
            x.finish(0);
            x.accept(0);
            x.answer(4);
            x.finish(-1);
            x.accept(0);
            x.tamper(0, 1, 0, 1);
            x.tamper(0, 9, 0, 1);
            x.lookAll();
            dueText("the text", x, some(77));
        });
    }

    private static void group(Suite suite) {
        suite.test("5: CODE of GROUP of the text: 32 bytes, by the vectors of RFC 9497", () -> {
            Both x = fresh();
            String blind = "64d37aed22a27f5191de1c1d69fadb899d8862b58eb4220029e036ec4c1f6706";
            String key = "5ebcea5ee37023ccb9fc2d2019f9d7737be85591ae8652ffa9ef0f4d37063b0e";
            x.hex("00");
            due("group", x.group(), 32);
            x.hex(blind + x.resultHex());
            x.times();
            String blinded = x.resultHex();
            due("00 blinded", blinded, "609a0ae68c15a3cf6903766461307e5c8bb2f95e7e6550e1ffa2dc99e412803c");
            x.hex(key + blinded);
            x.times();
            due("00 evaluated", x.resultHex(), "7ec6578ae5120958eb2db1745758ff379e77cb64fe77b0b2d8cc917ea0869c7e");
            x.hex("5a".repeat(17));
            due("group", x.group(), 32);
            x.hex(blind + x.resultHex());
            x.times();
            due("5a blinded", x.resultHex(), "da27ef466870f5f15296299850aa088629945a17d1f5b7f5ff043f76b3c06418");
        });
        suite.test("5: GROUP of an empty text", () -> dueGroup(new byte[0]));
        suite.test("5: GROUP of a full text", () -> dueGroup(some(200)));
        suite.test("5: GROUP of lengths beside the blocks of HASH", () -> {
            // 172 bytes stand round the text in the first HASH of STRETCH
            for (int n : new int[] {66, 67, 68, 83, 84, 85, 194, 195, 196}) {
                dueGroup(some(n));
            }
        });
        suite.test("5: numbers modulo 2 to the power 255, roots good or not: every case of both halves", () -> {
            Set<String> seen = new TreeSet<>();
            for (int n = 0; n < 500; n++) {
                byte[] text = Oracle.number(2, n);
                byte[] wide = Oracle.stretch(text, Oracle.context("HashToGroup-"));
                if (seen.add(caseOf(wide, 0) + caseOf(wide, 32))) {
                    dueGroup(text);
                }
            }
            due("cases", seen.size(), 16);
        });
        suite.test("5: is the result, and nothing of a longer one stays", () -> {
            Both x = fresh();
            x.hash();
            x.group();
            due("the last byte", x.result(31) >= 0, true);
            due("behind it", x.result(32), THROWN);
            due("far behind it", x.result(63), THROWN);
        });
    }

    private static void dueGroup(byte[] text) {
        Both x = fresh();
        x.text(text);
        due("group", x.group(), 32);
        due("GROUP of " + Both.digits(text), x.resultHex(), Both.digits(Oracle.code(Oracle.group(text))));
    }

    /** Whether the highest bit of a half is set, and whether its root is good. */
    private static String caseOf(byte[] wide, int at) {
        BigInteger t = Oracle.read(Oracle.cut(wide, at, at + 32)).mod(Oracle.TWO.pow(255)).mod(Oracle.P);
        BigInteger r = Oracle.times(Oracle.I, t, t);
        BigInteger u = Oracle.times(r.add(Oracle.ONE), Oracle.ONE.subtract(Oracle.times(Oracle.D, Oracle.D)));
        BigInteger v = Oracle.times(Oracle.ONE.negate().subtract(Oracle.times(r, Oracle.D)), r.add(Oracle.D));
        return (wide[at + 31] < 0 ? "high " : "low ") + (Oracle.root(u, v).good() ? "good " : "bad ");
    }

    private static void dueTimes(String what, BigInteger scalar, String point, String want) {
        Both x = fresh();
        x.text(Oracle.join(Oracle.write(scalar), Both.bytes(point)));
        due(what + ": times", x.times(), 32);
        due(what, x.resultHex(), want);
    }

    private static void times(Suite suite) {
        suite.test("6: a scalar times a point: its CODE, 32, by the multiples of RFC 9496", () -> {
            for (int k = 0; k < MULTIPLES.length; k++) {
                dueTimes(k + " times BASE", BigInteger.valueOf(k), BASE, MULTIPLES[k]);
            }
        });
        suite.test("6: the first 32 bytes are the scalar, the next the point", () -> {
            for (int n = 0; n < 6; n++) {
                BigInteger scalar = Oracle.scalar(Oracle.hash(some(n)));
                Oracle.Spot point = Oracle.group(some(n));
                dueTimes("times", scalar, Both.digits(Oracle.code(point)),
                    Both.digits(Oracle.code(Oracle.times(scalar, point))));
            }
        });
        suite.test("6: 0 times a point", () -> dueTimes("0 times", BigInteger.ZERO, MULTIPLES[5], ZERO));
        suite.test("6: the point whose CODE is 32 bytes of 0", () -> {
            dueTimes("0 times 0", BigInteger.ZERO, ZERO, ZERO);
            dueTimes("1 times 0", BigInteger.ONE, ZERO, ZERO);
            dueTimes("5 times 0", BigInteger.valueOf(5), ZERO, ZERO);
        });
        suite.test("6: just 64 bytes", () -> {
            Both x = fresh();
            x.hex("02" + "00".repeat(31) + BASE);
            due("it has 64", x.end(64), true);
            due("times", x.times(), 32);
            due("2 times BASE", x.resultHex(), MULTIPLES[2]);
        });
        suite.test("6: more bytes do not matter", () -> {
            for (int more : new int[] {1, 32, 64, 136}) {
                Both x = fresh();
                x.hex("02" + "00".repeat(31) + BASE + "ff".repeat(more));
                due("times", x.times(), 32);
                due("2 times BASE", x.resultHex(), MULTIPLES[2]);
            }
        });
        suite.test("6: is the result, and nothing of a longer one stays", () -> {
            Both x = fresh();
            x.hash();
            x.hex("02" + "00".repeat(31) + BASE);
            x.times();
            due("the last byte", x.result(31), 0x19);
            due("behind it", x.result(32), THROWN);
            due("far behind it", x.result(63), THROWN);
        });
    }

    private static void timesScalars(Suite suite) {
        suite.test("6: a scalar modulo q: q is 0, q and 1 are 1", () -> {
            for (int k = 0; k < MULTIPLES.length; k++) {
                dueTimes("q and " + k, Oracle.Q.add(BigInteger.valueOf(k)), BASE, MULTIPLES[k]);
            }
        });
        suite.test("6: a scalar modulo q: just below q", () -> {
            String negated = Both.digits(Oracle.open(Oracle.Q.subtract(Oracle.ONE)));
            dueTimes("q less 1", Oracle.Q.subtract(Oracle.ONE), BASE, negated);
            dueTimes("q less 1, twice", Oracle.Q.subtract(Oracle.ONE), negated, BASE);
            dueTimes("q less 2", Oracle.Q.subtract(Oracle.TWO), negated, MULTIPLES[2]);
        });
        suite.test("6: a scalar modulo q: every multiple of q that 32 bytes hold", () -> {
            for (int k = 2; k < 16; k++) {
                BigInteger multiple = Oracle.Q.multiply(BigInteger.valueOf(k));
                for (int more = 0; more <= 2; more++) {
                    dueTimes(k + " times q and " + more, multiple.add(BigInteger.valueOf(more)), BASE, MULTIPLES[more]);
                }
                dueTimes(k + " times q less 1", multiple.subtract(Oracle.ONE),
                    BASE, Both.digits(Oracle.open(Oracle.Q.subtract(Oracle.ONE))));
            }
        });
        suite.test("6: a scalar modulo q: the highest 32 bytes", () -> {
            BigInteger highest = Oracle.TWO.pow(256).subtract(Oracle.ONE);
            dueTimes("highest", highest, BASE, Both.digits(Oracle.open(highest.mod(Oracle.Q))));
        });
        suite.test("6: a scalar modulo q: each power of 2", () -> {
            for (int n = 0; n < 256; n += n < 240 ? 5 : 1) {
                BigInteger power = Oracle.TWO.pow(n);
                dueTimes("2 to the power " + n, power, BASE, Both.digits(Oracle.open(power.mod(Oracle.Q))));
            }
        });
    }

    /** NONE, with the result of before and an empty text. */
    private static void dueNone(String what, byte[] text) {
        Both x = fresh();
        x.text("abc");
        x.hash();
        x.text(text);
        due(what, x.times(), -1);
        due(what + ": the result stays", x.resultHex(), ABC);
        due(what + ": the text is used up", x.end(1), false);
    }

    private static void timesRefused(Suite suite) {
        byte[] good = Both.bytes("02" + "00".repeat(31) + BASE);
        suite.test("6: NONE when it has fewer than 64 bytes: 63", () -> dueNone("63 bytes", Arrays.copyOf(good, 63)));
        suite.test("6: NONE when it has fewer than 64 bytes: none", () -> dueNone("no bytes", new byte[0]));
        suite.test("6: NONE when it has fewer than 64 bytes: just a scalar", () ->
            dueNone("32 bytes", Arrays.copyOf(good, 32)));
        suite.test("6: NONE when it has fewer than 64 bytes: what a text had before does not count", () -> {
            Both x = fresh();
            x.text(good);
            x.end(63);
            due("cut", x.times(), -1);
            x.text(good);
            x.hash();
            x.text(Arrays.copyOf(good, 40));
            due("used up", x.times(), -1);
        });
        suite.test("6: NONE, the result staying", () -> {
            Both x = fresh();
            due("times", x.times(), -1);
            due("there is none still", x.result(0), THROWN);
            x.hex("02" + "00".repeat(31) + BASE);
            x.times();
            x.hex("02" + "00".repeat(31) + "01" + "00".repeat(31));
            due("times", x.times(), -1);
            due("result", x.resultHex(), MULTIPLES[2]);
        });
    }

    private static void dueNoPoint(String... codes) {
        for (String code : codes) {
            dueNone(code, Both.bytes("01" + "00".repeat(31) + code));
            dueNone("with 0 as the scalar " + code, Both.bytes(ZERO + code));
        }
    }

    /** The bytes that RFC 9496 says are no points, by what is wrong with them. */
    private static void timesNoPoint(Suite suite) {
        String nearP = "ff".repeat(30) + "7f";
        suite.test("6: NONE when they are none: a number that is p", () -> dueNoPoint("ed" + nearP));
        suite.test("6: NONE when they are none: a number above p", () -> dueNoPoint(
            "ee" + nearP, "f3" + nearP, "fe" + nearP, "ff" + nearP, "00" + "ff".repeat(31), "ff".repeat(32)));
        suite.test("6: NONE when they are none: a point's number with p added", () -> {
            dueNoPoint(Both.digits(Oracle.write(Oracle.P)));
            BigInteger small = Oracle.ZERO;
            for (int s = 2; s < 19; s += 2) {
                if (Oracle.decode(Oracle.write(BigInteger.valueOf(s))) != null) {
                    small = BigInteger.valueOf(s);
                    dueNoPoint(Both.digits(Oracle.write(Oracle.P.add(small))));
                }
            }
            due("there is such a point", small.signum(), 1);
        });
        suite.test("6: NONE when they are none: a point's number with the highest bit set", () -> {
            byte[] high = Both.bytes(BASE);
            high[31] ^= (byte) 128;
            dueNoPoint(Both.digits(high), "00".repeat(31) + "80");
        });
        suite.test("6: NONE when they are none: an odd number", () -> dueNoPoint(
            "01" + "00".repeat(31), "01" + nearP,
            Both.digits(Oracle.write(Oracle.P.subtract(Oracle.read(Both.bytes(BASE))))),
            "ed57ffd8c914fb201471d1c3d245ce3c746fcbe63a3679d51b6a516ebebe0e20",
            "c34c4e1826e5d403b78e246e88aa051c36ccf0aafebffe137d148a2bf9104562",
            "c940e5a4404157cfb1628b108db051a8d439e1a421394ec4ebccb9ec92a8ac78",
            "47cfc5497c53dc8e61c91d17fd626ffb1c49e2bca94eed052281b510b1117a24",
            "f1c6165d33367351b0da8f6e4511010c68174a03b6581212c71c0e1d026c3c72",
            "87260f7a2f12495118360f02c26a470f450dadf34a413d21042b43b9d93e1309"));
        suite.test("6: NONE when they are none: the root is not good", () -> dueNoPoint(
            "26948d35ca62e643e26a83177332e6b6afeb9d08e4268b650f1f5bbd8d81d371",
            "4eac077a713c57b4f4397629a4145982c661f48044dd3f96427d40b147d9742f",
            "de6a7b00deadc788eb6b6c8d20c0ae96c2f2019078fa604fee5b87d6e989ad7b",
            "bcab477be20861e01e4a0e295284146a510150d9817763caf1a6f4b422d67042",
            "2a292df7e32cababbd9de088d1d1abec9fc0440f637ed2fba145094dc14bea08",
            "f4a9e534fc0d216c44b218fa0c42d99635a0127ee2e53c712f70609649fdff22",
            "8268436f8c4126196cf64b3c7ddbda90746a378625f9813dd9b8457077256731",
            "2810e5cbc2cc4d4eece54f61c6f69758e289aa7ab440b3cbeaa21995c2f4232b"));
        suite.test("6: NONE when they are none: x y is odd", () -> dueNoPoint(
            "3eb858e78f5a7254d8c9731174a94f76755fd3941c0ac93735c07ba14579630e",
            "a45fdc55c76448c049a1ab33f17023edfb2be3581e9c7aade8a6125215e04220",
            "d483fe813c6ba647ebbfd3ec41adca1c6130c2beeee9d9bf065c8d151c5f396e",
            "8a2e1d30050198c65a54483123960ccc38aef6848e1ec8f5f780e8523769ba32",
            "32888462f8b486c68ad7dd9610be5192bbeaf3b443951ac1a8118419d9fa097b",
            "227142501b9d4355ccba290404bde41575b037693cef1f438c47f8fbf35d1165",
            "5c37cc491da847cfeb9281d407efc41e15144c876e0170b499a96a22ed31e01e",
            "445425117cb8c90edcbc7c1cc0e74f747f2c1efa5630a967c64f287792a48a4b"));
        suite.test("6: NONE when they are none: y is 0", () -> dueNoPoint("ec" + nearP));
        suite.test("6: every small number is a point or is none", () -> {
            for (int s = 0; s < 64; s++) {
                Both x = fresh();
                x.text(Oracle.join(Oracle.write(Oracle.ONE), Oracle.write(BigInteger.valueOf(s))));
                boolean point = Oracle.decode(Oracle.write(BigInteger.valueOf(s))) != null;
                due("times " + s, x.times(), point ? 32 : -1);
                due("1 times " + s, x.resultHex(), point ? Both.digits(Oracle.write(BigInteger.valueOf(s))) : "");
            }
        });
    }

    private static void result(Suite suite) {
        suite.test("7: byte i of the result, 0 to 255", () -> {
            Both x = fresh();
            x.text("abc");
            x.hash();
            due("first", x.result(0), 0xdd);
            due("the last", x.result(63), 0x9f);
            due("a low one", x.result(35), 0x2a);
        });
        suite.test("7: NoSuchElementException: there is no result", () -> {
            for (int i : new int[] {MIN, -1, 0, 1, 31, 32, 63, 64, MAX}) {
                due("result", fresh().result(i), THROWN);
            }
        });
        suite.test("7: NoSuchElementException: below 0", () -> {
            Both x = fresh();
            x.hash();
            due("-1", x.result(-1), THROWN);
            due("lowest", x.result(MIN), THROWN);
        });
        suite.test("7: NoSuchElementException: behind 64 bytes", () -> {
            Both x = fresh();
            x.hash();
            due("63", x.result(63) >= 0, true);
            due("64", x.result(64), THROWN);
            due("highest", x.result(MAX), THROWN);
        });
        suite.test("7: NoSuchElementException: behind 32 bytes", () -> {
            Both x = fresh();
            x.group();
            due("31", x.result(31) >= 0, true);
            due("32", x.result(32), THROWN);
        });
        suite.test("7: the result stays until another is made", () -> {
            Both x = fresh();
            x.text("abc");
            x.hash();
            x.text("pass");
            x.enroll(0);
            x.text("pass");
            x.begin(0, 0);
            x.answer(0);
            x.finish(0);
            x.accept(0);
            x.enroll(8);
            x.begin(4, 4);
            x.times();
            x.result(64);
            due("result", x.resultHex(), ABC);
        });
    }
}
