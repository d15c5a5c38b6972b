/** An object is used for at most 512 calls: up to the last of them all answers are as due. */
public final class LimitTest {
    public static void main(String[] args) {
        Suite suite = new Suite("LimitTest", args);
        suite.test("512 calls: talks of four sessions to the end", LimitTest::talks);
        suite.test("512 calls: as many chances as they can call", LimitTest::chances);
        suite.test("512 calls: enrolling anew and anew", LimitTest::enrollings);
        suite.test("512 calls: texts and results", LimitTest::texts);
        suite.test("512 calls: tampering", LimitTest::tampering);
        suite.test("512 calls: refused ones change nothing", LimitTest::refusals);
        suite.close();
    }

    private static Both fresh() {
        return new Both("a gate", -77);
    }

    private static void due(String what, long got, long want) {
        Both.due(what, got, want);
    }

    private static void dueLeft(Both x, int calls) {
        due("calls left", x.left(), calls);
    }

    private static void talks() {
        Both x = fresh();
        for (int user = 0; user < 4; user++) {
            x.feed(user, 2, 3, 4, 5);
            x.enroll(user);
        }
        for (int i = 0; i < 100; i++) {
            x.feed(i & 3, 2, 3, 4, 5);
            due("begin", x.begin(i & 3, i & 3), 0);
            due("answer", x.answer(i & 3), 0);
            due("finish", x.finish(i & 3), 0);
            due("accept", x.accept(i & 3), 0);
        }
        x.begin(0, 0);
        x.answer(0);
        due("an empty password", x.finish(0), 3);
        due("the 512th call", x.accept(0), 2);
        dueLeft(x, 0);
    }

    /** Eight chances by two calls, so that their number takes two bytes; the calls that are left look at it. */
    private static void chances() {
        Both x = fresh();
        for (int i = 0; i < 200; i++) {
            due("begin", x.begin(i & 3, i & 7), 0);
            due("answer", x.answer(i & 3), 0);
        }
        due("feed", x.feed(1, 2, 3, 4, 5) ? 1 : 0, 1);
        due("enroll", x.enroll(6), 0);
        due("feed", x.feed(1, 2, 3, 4, 5) ? 1 : 0, 1);
        due("begin", x.begin(3, 6), 0);
        due("answer", x.answer(3), 0);
        due("finish", x.finish(3), 0);
        due("accept", x.accept(3), 0);
        dueLeft(x, 105);
        x.lookAll();
    }

    private static void enrollings() {
        Both x = fresh();
        for (int i = 0; i < 254; i++) {
            x.feed(i, i, i, i, i);
            due("enroll", x.enroll(i & 7), 0);
        }
        x.feed(253, 253, 253, 253, 253);
        due("begin", x.begin(1, 253 & 7), 0);
        due("answer", x.answer(1), 0);
        due("the 512th call", x.finish(1), 0);
        dueLeft(x, 0);
    }

    private static void texts() {
        Both x = fresh();
        for (int i = 0; i < 112; i++) {
            x.feed(i, i, i, i, i);
            x.end(i % 21);
            due("hash or group", i % 2 == 0 ? x.group() : x.hash(), i % 2 == 0 ? 32 : 64);
            due("times of nothing", x.times(), -1);
        }
        dueLeft(x, 64);
        due("result", x.resultHex().length(), 128);
    }

    /** Every byte of messages 1 and 2 that the calls suffice for, changed and changed back. */
    private static void tampering() {
        Both x = fresh();
        x.enroll(7);
        x.begin(3, 7);
        for (int i = 0; i < 192; i++) {
            x.tamper(3, 1, i % 96, i % 96 + 1);
        }
        x.answer(3);
        for (int i = 0; i < 314; i++) {
            x.tamper(3, 2, i / 2, i / 2 + 1);
        }
        x.tamper(3, 2, 319, 256);
        due("changed back", x.finish(3), 0);
        due("the 512th call", x.accept(3), 0);
        dueLeft(x, 0);
    }

    private static void refusals() {
        Both x = fresh();
        x.enroll(7);
        x.begin(3, 7);
        for (int i = 0; i < 100; i++) {
            due("enroll", x.enroll(8 + i), -1);
            due("begin", x.begin(3, -1 - i), -1);
            due("answer", x.answer(4 + i), -1);
            due("finish", x.finish(3), 2);
            due("accept", x.accept(3), 2);
        }
        due("answer", x.answer(3), 0);
        due("again", x.answer(3), 2);
        due("finish", x.finish(3), 0);
        due("again", x.finish(3), 2);
        due("accept", x.accept(3), 0);
        due("again", x.accept(3), 2);
        dueLeft(x, 4);
        x.feed(1, 2, 3, 4, 5);
        x.end(21);
        x.hash();
        due("the 512th call", x.times(), -1);
        dueLeft(x, 0);
    }
}
