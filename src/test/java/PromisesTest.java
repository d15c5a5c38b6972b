/** Each promise by itself: ordinary inputs, the edges that the document names, wrong inputs. */
public final class PromisesTest {
    private static final int THROWN = Both.THROWN;
    private static final String BASE = "e2f2ae0a6abc4e71a884a961c500515f58e30b6aa582dd8db6a65945e08d2d76";
    private static final String ZERO = "00".repeat(32);

    public static void main(String[] args) {
        newObject();
        feed();
        end();
        hash();
        group();
        times();
        timesRefuses();
        result();
        enroll();
        enrollAnew();
        begin();
        answer();
        answerReadsTheWire();
        answerWhoIsNotEnrolled();
        finish();
        finishReadsTheWire();
        accept();
        wire();
        tamper();
        key();
        chance();
        Both.close("PromisesTest");
    }

    private static Both fresh(String name) {
        return new Both(name, 7);
    }

    private static void due(String what, long got, long want) {
        Both.due(what, got, want);
    }

    private static void due(String what, boolean got, boolean want) {
        Both.due(what, got ? 1 : 0, want ? 1 : 0);
    }

    private static void due(String what, String got, String want) {
        if (!got.equals(want)) {
            System.out.println(what + ": " + got + ", due " + want);
            Both.due(what, 0, 1);
        }
    }

    /** A session of an enrolled user up to the given message. */
    private static Both upTo(String name, int message) {
        Both x = fresh(name);
        x.text("secret");
        x.enroll(1);
        x.text("secret");
        due(name + " begin", x.begin(2, 1), 0);
        if (message > 1) {
            due(name + " answer", x.answer(2), 0);
        }
        if (message > 2) {
            due(name + " finish", x.finish(2), 0);
        }
        return x;
    }

    private static void newObject() {
        Both x = fresh("promise 1");
        due("1: NONE", PasswordGate.NONE, -1);
        x.lookAll();
        for (int session = 0; session < 4; session++) {
            due("1: answer", x.answer(session), 2);
            due("1: finish", x.finish(session), 2);
            due("1: accept", x.accept(session), 2);
            due("1: wire", x.wire(session, 1, 0), THROWN);
            due("1: tamper", x.tamper(session, 1, 0, 1), false);
            due("1: key", x.key(session, 0, 0), THROWN);
        }
        due("1: result", x.result(0), THROWN);
        due("1: the text has nothing", x.end(1), false);
        for (int user = 0; user < 8; user++) {
            due("1: begin", x.begin(0, user), 0);
            due("1: answer", x.answer(0), 0);
            due("1: nobody is enrolled", x.finish(0), 3);
        }
    }

    private static void feed() {
        Both x = fresh("promise 2");
        due("2: feed", x.feed(0x61626364, 0x65666768, 0x696a6b6c, 0x6d6e6f70, -1), true);
        x.hash();
        String fed = x.resultHex();
        x.text(Oracle.join("abcdefghijklmnop", Both.bytes("ffffffff")));
        x.hash();
        due("2: the highest byte comes first", x.resultHex(), fed);
        for (int i = 0; i < 10; i++) {
            due("2: feed " + i, x.feed(i, -i, 3, 4, 5), true);
        }
        due("2: 200 bytes are full", x.feed(1, 2, 3, 4, 5), false);
        due("2: nothing changed", x.end(201), false);
        due("2: still 200", x.end(200), true);
        x.hash();
        x.lookAll();
        for (int i = 0; i < 10; i++) {
            x.feed(i, i, i, i, i);
        }
        x.end(181);
        due("2: 201 would be too many", x.feed(1, 2, 3, 4, 5), false);
        x.end(180);
        due("2: 200 are not", x.feed(1, 2, 3, 4, 5), true);
        x.hash();
        x.lookAll();
    }

    private static void end() {
        Both x = fresh("promise 3");
        due("3: end(0) of nothing", x.end(0), true);
        due("3: end(1) of nothing", x.end(1), false);
        due("3: end(-1)", x.end(-1), false);
        x.feed(0x61626300, 0, 0, 0, 0);
        due("3: end(21)", x.end(21), false);
        due("3: lowest", x.end(Integer.MIN_VALUE), false);
        due("3: highest", x.end(Integer.MAX_VALUE), false);
        due("3: end(20)", x.end(20), true);
        due("3: end(3)", x.end(3), true);
        due("3: what is cut is gone", x.end(4), false);
        x.feed(0x64000000, 0, 0, 0, 0);
        due("3: a feed goes behind what counts", x.end(4), true);
        x.hash();
        String fed = x.resultHex();
        x.text("abcd");
        x.hash();
        due("3: abcd", x.resultHex(), fed);
    }

    private static void hash() {
        Both x = fresh("promise 4");
        due("4: hash", x.hash(), 64);
        due("4: of nothing", x.resultHex(),
            "cf83e1357eefb8bdf1542850d66d8007d620e4050b5715dc83f4a921d36ce9ce"
            + "47d0d13c5d85f2b0ff8318d2877eec2f63b931bd47417a81a538327af927da3e");
        x.text("abc");
        due("4: hash", x.hash(), 64);
        due("4: of abc", x.resultHex(),
            "ddaf35a193617abacc417349ae20413112e6fa4e89a97ea20a9eeee64b55d39a"
            + "2192992a274fc1a836ba3c23a3feebbd454d4423643ce80e2a9ac94fa54ca49f");
        due("4: the text is used up", x.end(1), false);
        for (int n = 0; n <= 200; n++) {
            byte[] bytes = new byte[n];
            for (int i = 0; i < n; i++) {
                bytes[i] = (byte) (7 * i + n);
            }
            x.text(bytes);
            x.hash();
            x.resultHex();
        }
    }

    /** The vectors of RFC 9497 (ristretto255, mode 0): the inputs' points, blinded, then evaluated. */
    private static void group() {
        Both x = fresh("promise 5");
        String blind = "64d37aed22a27f5191de1c1d69fadb899d8862b58eb4220029e036ec4c1f6706";
        String key = "5ebcea5ee37023ccb9fc2d2019f9d7737be85591ae8652ffa9ef0f4d37063b0e";
        x.hex("00");
        due("5: group", x.group(), 32);
        due("5: the text is used up", x.end(1), false);
        x.hex(blind + x.resultHex());
        x.times();
        String blinded = x.resultHex();
        due("5: input 00 blinded", blinded, "609a0ae68c15a3cf6903766461307e5c8bb2f95e7e6550e1ffa2dc99e412803c");
        x.hex(key + blinded);
        x.times();
        due("5: input 00 evaluated", x.resultHex(), "7ec6578ae5120958eb2db1745758ff379e77cb64fe77b0b2d8cc917ea0869c7e");
        x.hex("5a".repeat(17));
        x.group();
        x.hex(blind + x.resultHex());
        x.times();
        due("5: input 5a blinded", x.resultHex(), "da27ef466870f5f15296299850aa088629945a17d1f5b7f5ff043f76b3c06418");
        for (int n = 0; n <= 200; n += 8) {
            x.text("x".repeat(n));
            due("5: group", x.group(), 32);
            x.resultHex();
            due("5: byte 32", x.result(32), THROWN);
        }
    }

    /** The multiples of RFC 9496, and scalars on both sides of q. */
    private static void times() {
        Both x = fresh("promise 6");
        String[] multiples = {
            ZERO,
            BASE,
            "6a493210f7499cd17fecb510ae0cea23a110e8d5b901f8acadd3095c73a3b919",
            "94741f5d5d52755ece4f23f044ee27d5d1ea1e2bd196b462166b16152a9d0259",
            "da80862773358b466ffadfe0b3293ab3d9fd53c5ea6c955358f568322daf6a57",
            "e882b131016b52c1d3337080187cf768423efccbb517bb495ab812c4160ff44e",
        };
        for (int k = 0; k < multiples.length; k++) {
            x.hex(String.format("%02x", k) + "00".repeat(31) + BASE);
            due("6: times", x.times(), 32);
            due("6: the text is used up", x.end(1), false);
            due("6: " + k + " times the base", x.resultHex(), multiples[k]);
            due("6: byte 32", x.result(32), THROWN);
        }
        for (int k = 0; k < 16; k++) {
            for (int offset = -2; offset <= 2; offset++) {
                java.math.BigInteger scalar = Oracle.Q.multiply(java.math.BigInteger.valueOf(k))
                    .add(java.math.BigInteger.valueOf(offset)).mod(Oracle.TWO.pow(256));
                x.text(Oracle.join(Oracle.write(scalar), Both.bytes(BASE)));
                x.times();
                String got = x.resultHex();
                if (offset >= 0) {
                    due("6: q goes round", got, multiples[offset]);
                }
            }
        }
        x.hex("ff".repeat(32) + BASE);
        x.times();
        x.resultHex();
        x.hex("05" + "00".repeat(31) + ZERO);
        due("6: 0 is a point", x.times(), 32);
        due("6: 5 times 0", x.resultHex(), ZERO);
        x.hex("02" + "00".repeat(31) + BASE + "ff".repeat(40));
        due("6: more than 64 bytes do not matter", x.times(), 32);
        due("6: 2 times the base", x.resultHex(), multiples[2]);
    }

    /** What is no point: the list of RFC 9496 (not below p; odd; no root; x y odd; y is 0). */
    private static void timesRefuses() {
        Both x = fresh("promise 6, refused");
        String[] none = {
            "00" + "ff".repeat(31),
            "ff".repeat(31) + "7f",
            "f3" + "ff".repeat(30) + "7f",
            "ed" + "ff".repeat(30) + "7f",
            "ee" + "ff".repeat(30) + "7f",
            "01" + "00".repeat(31),
            "01" + "ff".repeat(30) + "7f",
            "00".repeat(31) + "80",
            "ed57ffd8c914fb201471d1c3d245ce3c746fcbe63a3679d51b6a516ebebe0e20",
            "c34c4e1826e5d403b78e246e88aa051c36ccf0aafebffe137d148a2bf9104562",
            "c940e5a4404157cfb1628b108db051a8d439e1a421394ec4ebccb9ec92a8ac78",
            "47cfc5497c53dc8e61c91d17fd626ffb1c49e2bca94eed052281b510b1117a24",
            "f1c6165d33367351b0da8f6e4511010c68174a03b6581212c71c0e1d026c3c72",
            "87260f7a2f12495118360f02c26a470f450dadf34a413d21042b43b9d93e1309",
            "26948d35ca62e643e26a83177332e6b6afeb9d08e4268b650f1f5bbd8d81d371",
            "4eac077a713c57b4f4397629a4145982c661f48044dd3f96427d40b147d9742f",
            "de6a7b00deadc788eb6b6c8d20c0ae96c2f2019078fa604fee5b87d6e989ad7b",
            "bcab477be20861e01e4a0e295284146a510150d9817763caf1a6f4b422d67042",
            "2a292df7e32cababbd9de088d1d1abec9fc0440f637ed2fba145094dc14bea08",
            "f4a9e534fc0d216c44b218fa0c42d99635a0127ee2e53c712f70609649fdff22",
            "8268436f8c4126196cf64b3c7ddbda90746a378625f9813dd9b8457077256731",
            "2810e5cbc2cc4d4eece54f61c6f69758e289aa7ab440b3cbeaa21995c2f4232b",
            "3eb858e78f5a7254d8c9731174a94f76755fd3941c0ac93735c07ba14579630e",
            "a45fdc55c76448c049a1ab33f17023edfb2be3581e9c7aade8a6125215e04220",
            "d483fe813c6ba647ebbfd3ec41adca1c6130c2beeee9d9bf065c8d151c5f396e",
            "8a2e1d30050198c65a54483123960ccc38aef6848e1ec8f5f780e8523769ba32",
            "32888462f8b486c68ad7dd9610be5192bbeaf3b443951ac1a8118419d9fa097b",
            "227142501b9d4355ccba290404bde41575b037693cef1f438c47f8fbf35d1165",
            "5c37cc491da847cfeb9281d407efc41e15144c876e0170b499a96a22ed31e01e",
            "445425117cb8c90edcbc7c1cc0e74f747f2c1efa5630a967c64f287792a48a4b",
            "ec" + "ff".repeat(30) + "7f",
        };
        x.text("abc");
        x.hash();
        String before = x.resultHex();
        for (String bytes : none) {
            x.hex("01" + "00".repeat(31) + bytes);
            due("6: no point " + bytes, x.times(), -1);
            due("6: the text is used up", x.end(1), false);
            due("6: the result stays", x.resultHex(), before);
        }
        for (int n = 0; n < 64; n += 7) {
            x.text(new byte[n]);
            due("6: too short", x.times(), -1);
            due("6: the result stays", x.resultHex(), before);
        }
        x.hex("01" + "00".repeat(31) + BASE.substring(0, 62));
        due("6: 63 bytes", x.times(), -1);
        due("6: the text is used up", x.end(1), false);
    }

    private static void result() {
        Both x = fresh("promise 7");
        due("7: there is none", x.result(0), THROWN);
        x.text("abc");
        x.hash();
        due("7: first", x.result(0), 0xdd);
        due("7: last", x.result(63), 0x9f);
        due("7: behind", x.result(64), THROWN);
        due("7: ahead", x.result(-1), THROWN);
        due("7: lowest", x.result(Integer.MIN_VALUE), THROWN);
        due("7: highest", x.result(Integer.MAX_VALUE), THROWN);
        x.group();
        due("7: a shorter result", x.result(31) >= 0, true);
        due("7: behind it", x.result(32), THROWN);
        x.text("pass");
        x.enroll(0);
        x.begin(0, 0);
        x.answer(0);
        x.finish(0);
        x.lookAll();
    }

    private static void enroll() {
        Both x = fresh("promise 8");
        for (int user : new int[] {-1, 8, 9, Integer.MIN_VALUE, Integer.MAX_VALUE}) {
            x.text("secret");
            due("8: another user", x.enroll(user), -1);
            due("8: the text is used up", x.end(1), false);
        }
        for (int user = 0; user < 8; user++) {
            x.text("secret" + user);
            due("8: enroll", x.enroll(user), 0);
            due("8: the text is used up", x.end(1), false);
        }
        for (int user = 0; user < 8; user++) {
            x.text("secret" + user);
            x.begin(3, user);
            x.answer(3);
            due("8: the right password", x.finish(3), 0);
            due("8: the server too", x.accept(3), 0);
            x.text("secret" + (user + 1));
            x.begin(3, user);
            x.answer(3);
            due("8: another's password", x.finish(3), 3);
        }
        x.lookAll();
        for (byte[] password : new byte[][] {new byte[0], new byte[1], new byte[200]}) {
            x.text(password);
            x.enroll(0);
            x.text(password);
            x.begin(0, 0);
            x.answer(0);
            due("8: " + password.length + " bytes", x.finish(0), 0);
            x.text(new byte[password.length == 200 ? 199 : password.length + 1]);
            x.begin(0, 0);
            x.answer(0);
            due("8: another length", x.finish(0), 3);
        }
    }

    private static void enrollAnew() {
        Both x = fresh("promise 8, anew");
        x.text("old");
        x.enroll(5);
        x.text("old");
        x.begin(0, 5);
        x.answer(0);
        x.text("old");
        x.begin(1, 5);
        x.text("new");
        x.begin(2, 5);
        x.text("new");
        due("8: anew", x.enroll(5), 0);
        due("8: what was answered stays", x.finish(0), 0);
        due("8: for the server too", x.accept(0), 0);
        due("8: answer", x.answer(1), 0);
        due("8: what was not answered is answered anew", x.finish(1), 3);
        due("8: answer", x.answer(2), 0);
        due("8: by the new password", x.finish(2), 0);
        x.lookAll();
        x.text("late");
        x.begin(3, 6);
        x.text("late");
        x.enroll(6);
        x.answer(3);
        due("8: enrolled between begin and answer", x.finish(3), 0);
        x.lookAll();
    }

    private static void begin() {
        Both x = upTo("promise 9", 3);
        x.accept(2);
        int[][] wrong = {{-1, 1}, {4, 1}, {2, -1}, {2, 8}, {Integer.MIN_VALUE, 1}, {2, Integer.MAX_VALUE}};
        for (int[] pair : wrong) {
            x.text("secret");
            due("9: another session or user", x.begin(pair[0], pair[1]), -1);
            due("9: the text is used up", x.end(1), false);
            due("9: the session stays", x.key(2, 1, 0) >= 0, true);
        }
        x.lookAll();
        x.text("secret");
        due("9: anew", x.begin(2, 1), 0);
        due("9: the text is used up", x.end(1), false);
        due("9: message 1", x.wire(2, 1, 95) >= 0, true);
        due("9: message 1 has 96 bytes", x.wire(2, 1, 96), THROWN);
        due("9: message 2 is gone", x.wire(2, 2, 0), THROWN);
        due("9: message 3 is gone", x.wire(2, 3, 0), THROWN);
        for (int side = 0; side < 3; side++) {
            due("9: key is gone", x.key(2, side, 0), THROWN);
        }
        due("9: no message 2 to read", x.finish(2), 2);
        due("9: no message 3 to read", x.accept(2), 2);
        due("9: answer", x.answer(2), 0);
        due("9: finish", x.finish(2), 0);
        due("9: accept", x.accept(2), 0);
        x.lookAll();
        x.text("secret");
        x.begin(2, 1);
        x.text("secret");
        x.begin(0, 1);
        x.text("secret");
        x.begin(2, 7);
        due("9: sessions are apart", x.answer(0), 0);
        due("9: sessions are apart", x.finish(0), 0);
        due("9: the new user counts", x.answer(2), 0);
        due("9: the new user counts", x.finish(2), 3);
        x.lookAll();
    }

    private static void answer() {
        Both x = upTo("promise 10", 1);
        for (int session : new int[] {-1, 4, Integer.MIN_VALUE, Integer.MAX_VALUE}) {
            due("10: another session", x.answer(session), -1);
        }
        due("10: no message 1", x.answer(1), 2);
        due("10: answer", x.answer(2), 0);
        due("10: message 2 has 320 bytes", x.wire(2, 2, 319) >= 0, true);
        due("10: and no more", x.wire(2, 2, 320), THROWN);
        x.lookAll();
        due("10: it was answered", x.answer(2), 2);
        x.lookAll();
        due("10: message 1 may change now", x.tamper(2, 1, 70, 255), true);
        due("10: it was answered all the same", x.answer(2), 2);
        due("10: the server has read it before", x.finish(2), 0);
        due("10: the server has read it before", x.accept(2), 0);
        x.lookAll();
    }

    /** Every byte of message 1 matters; what is no point is fault 1 and calls no chance. */
    private static void answerReadsTheWire() {
        for (int i = 0; i < 96; i += 5) {
            Both x = upTo("promise 10, byte " + i, 1);
            x.tamper(2, 1, i, 2);
            int got = x.answer(2);
            if (got == 1) {
                due("10: no message 2", x.wire(2, 2, 0), THROWN);
                due("10: it counts as answered", x.answer(2), 2);
                due("10: nothing to read", x.finish(2), 2);
                x.tamper(2, 1, i, 2);
                due("10: it was answered all the same", x.answer(2), 2);
            } else {
                due("10: answer", got, 0);
                due("10: the client tells", x.finish(2), i < 32 ? 3 : 4);
                due("10: no message 3", x.accept(2), 2);
            }
            // the next chance shows by the next message 1
            x.text("secret");
            x.begin(3, 1);
            x.lookAll();
        }
        for (int at : new int[] {0, 64}) {
            Both x = upTo("promise 10, point at " + at, 1);
            x.tamper(2, 1, at, 1);
            due("10: an odd number is no point", x.answer(2), 1);
            x = upTo("promise 10, high point at " + at, 1);
            x.tamper(2, 1, at + 31, 128);
            due("10: a number above p is no point", x.answer(2), 1);
            x = upTo("promise 10, 0 at " + at, 1);
            for (int i = at; i < at + 32; i++) {
                x.tamper(2, 1, i, x.wire(2, 1, i));
            }
            due("10: 0 is a point", x.answer(2), 0);
            due("10: the client tells", x.finish(2), at == 0 ? 3 : 4);
            x.lookAll();
        }
    }

    private static void answerWhoIsNotEnrolled() {
        Both x = fresh("promise 10, not enrolled");
        for (int session = 0; session < 4; session++) {
            x.text("secret");
            x.begin(session, 4);
            due("10: not enrolled", x.answer(session), 0);
            x.lookAll();
            due("10: the envelope does not open", x.finish(session), 3);
        }
        x.text("secret");
        x.begin(0, 4);
        x.tamper(0, 1, 0, 1);
        due("10: no point", x.answer(0), 1);
        x.text("secret");
        x.begin(0, 4);
        x.answer(0);
        x.lookAll();
    }

    private static void finish() {
        Both x = upTo("promise 11", 2);
        for (int session : new int[] {-1, 4, Integer.MIN_VALUE, Integer.MAX_VALUE}) {
            due("11: another session", x.finish(session), -1);
        }
        due("11: no message 2", x.finish(1), 2);
        due("11: no message 3 yet", x.wire(2, 3, 0), THROWN);
        due("11: finish", x.finish(2), 0);
        due("11: message 3 has 64 bytes", x.wire(2, 3, 63) >= 0, true);
        due("11: and no more", x.wire(2, 3, 64), THROWN);
        due("11: it was read", x.finish(2), 2);
        x.tamper(2, 2, 5, 1);
        due("11: it was read all the same", x.finish(2), 2);
        due("11: and does not change any more", x.accept(2), 0);
        x.lookAll();
        x = upTo("promise 11, enrolled by another seed", 2);
        x.text("secret");
        x.enroll(1);
        due("11: the client does not mind", x.finish(2), 0);
        x.lookAll();
    }

    /** Every part of message 2 is looked at, in the document's order of faults. */
    private static void finishReadsTheWire() {
        for (int i = 0; i < 320; i += 9) {
            Both x = upTo("promise 11, byte " + i, 2);
            x.tamper(2, 2, i, 4);
            int got = x.finish(2);
            boolean point = i < 32 || i >= 224 && i < 256;
            if (!(point && got == 1)) {
                due("11: byte " + i, got, i < 192 ? 3 : 4);
            }
            due("11: no message 3", x.wire(2, 3, 0), THROWN);
            due("11: no key", x.key(2, 0, 0), THROWN);
            due("11: no export key", x.key(2, 2, 0), THROWN);
            due("11: it was read with a fault", x.finish(2), 2);
            x.tamper(2, 2, i, 4);
            due("11: mending it is too late", x.finish(2), 2);
            due("11: nothing to accept", x.accept(2), 2);
        }
        int[][] faults = {{0, 1}, {32, 3}, {63, 3}, {64, 3}, {95, 3}, {96, 3}, {127, 3}, {128, 3}, {191, 3},
            {192, 4}, {223, 4}, {224, 1}, {256, 4}, {319, 4}};
        for (int[] fault : faults) {
            Both x = upTo("promise 11, fault at " + fault[0], 2);
            x.tamper(2, 2, fault[0], 1);
            due("11: fault at " + fault[0], x.finish(2), fault[1]);
        }
        Both x = upTo("promise 11, two faults", 2);
        x.tamper(2, 2, 100, 1);
        x.tamper(2, 2, 224, 1);
        due("11: the envelope is asked ahead of the server's point", x.finish(2), 3);
        x = upTo("promise 11, two more", 2);
        x.tamper(2, 2, 224, 1);
        x.tamper(2, 2, 300, 1);
        due("11: the MAC is asked last", x.finish(2), 1);
        x = upTo("promise 11, mended ahead", 2);
        x.tamper(2, 2, 300, 77);
        x.tamper(2, 2, 300, 77);
        due("11: twice the same mask", x.finish(2), 0);
        // the client has message 1 as it sent it, the server as it read it
        x = upTo("promise 11, message 1 on the wire", 1);
        x.tamper(2, 1, 33, 1);
        x.answer(2);
        x.tamper(2, 1, 33, 1);
        due("11: the server read another nonce", x.finish(2), 4);
        x = upTo("promise 11, message 1 later", 2);
        x.tamper(2, 1, 33, 1);
        due("11: both have the same nonce", x.finish(2), 0);
    }

    private static void accept() {
        Both x = upTo("promise 12", 3);
        for (int session : new int[] {-1, 4, Integer.MIN_VALUE, Integer.MAX_VALUE}) {
            due("12: another session", x.accept(session), -1);
        }
        due("12: no message 3", x.accept(1), 2);
        due("12: no key yet", x.key(2, 1, 0), THROWN);
        due("12: accept", x.accept(2), 0);
        due("12: it was read", x.accept(2), 2);
        x.lookAll();
        for (int i = 0; i < 64; i++) {
            x = upTo("promise 12, byte " + i, 3);
            x.tamper(2, 3, i, 1 << (i & 7));
            due("12: byte " + i, x.accept(2), 5);
            due("12: no key", x.key(2, 1, 0), THROWN);
            due("12: it was read with a fault", x.accept(2), 2);
            x.tamper(2, 3, i, 1 << (i & 7));
            due("12: mending it is too late", x.accept(2), 2);
            due("12: the client has its key", x.key(2, 0, 0) >= 0, true);
        }
        // the server has message 2 as it sent it, and what it reads is message 3 alone
        x = upTo("promise 12, the other wires", 3);
        x.tamper(2, 1, 3, 255);
        x.tamper(2, 2, 270, 255);
        due("12: accept", x.accept(2), 0);
        x.lookAll();
    }

    private static void wire() {
        Both x = upTo("promise 13", 3);
        int[] lengths = {0, 96, 320, 64, 0};
        for (int message = 0; message <= 4; message++) {
            for (int i : new int[] {Integer.MIN_VALUE, -1, lengths[message], Integer.MAX_VALUE}) {
                due("13: message " + message + " byte " + i, x.wire(2, message, i), THROWN);
            }
            if (lengths[message] > 0) {
                due("13: first of " + message, x.wire(2, message, 0) >= 0, true);
                due("13: last of " + message, x.wire(2, message, lengths[message] - 1) >= 0, true);
            }
        }
        for (int session : new int[] {-1, 0, 1, 3, 4, Integer.MIN_VALUE, Integer.MAX_VALUE}) {
            due("13: no such session", x.wire(session, 1, 0), THROWN);
        }
        due("13: no such message", x.wire(2, Integer.MIN_VALUE, 0), THROWN);
        due("13: no such message", x.wire(2, Integer.MAX_VALUE, 0), THROWN);
        x.lookAll();
        x.accept(2);
        x.lookAll();
    }

    private static void tamper() {
        Both x = upTo("promise 14", 2);
        int before = x.wire(2, 2, 17);
        due("14: tamper", x.tamper(2, 2, 17, 0xa5), true);
        due("14: the bits are turned round", x.wire(2, 2, 17), before ^ 0xa5);
        due("14: a mask of nothing", x.tamper(2, 2, 17, 0), true);
        due("14: only the lowest 8 bits", x.tamper(2, 2, 17, 0x7fffff00), true);
        due("14: nothing else turned", x.wire(2, 2, 17), before ^ 0xa5);
        due("14: all bits", x.tamper(2, 2, 17, -1), true);
        due("14: all bits are turned", x.wire(2, 2, 17), before ^ 0x5a);
        due("14: its neighbours stay", x.tamper(2, 2, 17, 0x5a), true);
        x.lookAll();
        due("14: first", x.tamper(2, 1, 0, 1), true);
        due("14: last", x.tamper(2, 2, 319, 1), true);
        due("14: behind", x.tamper(2, 2, 320, 1), false);
        due("14: ahead", x.tamper(2, 1, -1, 1), false);
        due("14: no message 3", x.tamper(2, 3, 0, 1), false);
        due("14: no message 0", x.tamper(2, 0, 0, 1), false);
        due("14: no message 4", x.tamper(2, 4, 0, 1), false);
        for (int session : new int[] {-1, 0, 4, Integer.MIN_VALUE, Integer.MAX_VALUE}) {
            due("14: no such session", x.tamper(session, 1, 0, 1), false);
        }
        due("14: far behind", x.tamper(2, 1, Integer.MAX_VALUE, 1), false);
        due("14: far ahead", x.tamper(2, 1, Integer.MIN_VALUE, 1), false);
        x.lookAll();
    }

    private static void key() {
        Both x = upTo("promise 15", 2);
        for (int side = 0; side < 3; side++) {
            due("15: none ahead of finish", x.key(2, side, 0), THROWN);
        }
        x.finish(2);
        due("15: the client's", x.key(2, 0, 63) >= 0, true);
        due("15: the export key", x.key(2, 2, 63) >= 0, true);
        due("15: the server's comes by accept", x.key(2, 1, 0), THROWN);
        x.accept(2);
        int unlike = 0;
        for (int i = 0; i < 64; i++) {
            due("15: both sides have one key", x.key(2, 0, i), x.key(2, 1, i));
            unlike += x.key(2, 0, i) == x.key(2, 2, i) ? 0 : 1;
        }
        due("15: the export key is another", unlike > 32, true);
        for (int side = -1; side <= 3; side++) {
            due("15: behind", x.key(2, side, 64), THROWN);
            due("15: ahead", x.key(2, side, -1), THROWN);
        }
        due("15: no side", x.key(2, 3, 0), THROWN);
        due("15: no side", x.key(2, -1, 0), THROWN);
        due("15: no side", x.key(2, Integer.MIN_VALUE, 0), THROWN);
        due("15: no side", x.key(2, Integer.MAX_VALUE, 0), THROWN);
        for (int session : new int[] {-1, 0, 4, Integer.MIN_VALUE, Integer.MAX_VALUE}) {
            due("15: no such session", x.key(session, 0, 0), THROWN);
        }
        int export = x.key(2, 2, 0);
        x.text("secret");
        x.begin(3, 1);
        x.answer(3);
        x.finish(3);
        due("15: one export key for one enrolling", x.key(3, 2, 0), export);
        x.lookAll();
    }

    /** The seed alone makes the chance: another seed is another object, the same seed the same. */
    private static void chance() {
        int[] seeds = {0, 1, -1, 255, 256, Integer.MIN_VALUE, Integer.MAX_VALUE};
        for (int seed : seeds) {
            Both x = new Both("chance", seed);
            x.text("a");
            x.begin(1, 0);
            x.text("a");
            x.enroll(0);
            x.answer(1);
            x.finish(1);
            x.accept(1);
            x.lookAll();
        }
    }
}
