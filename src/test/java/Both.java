import java.util.NoSuchElementException;

/** A gate and the oracle side by side: every call goes to both, and an answer that is not the oracle's is counted. */
final class Both {
    /** Stands for an answer that is a NoSuchElementException. */
    static final int THROWN = -1000;

    private static int wrong;
    private final PasswordGate gate;
    private final Oracle oracle;
    private final String name;

    interface Call {
        int answer();
    }

    Both(String name, int seed) {
        this.name = name + ", seed " + seed;
        gate = new PasswordGate(seed);
        oracle = new Oracle(seed);
    }

    /** Prints every wrong answer's count and ends the program with 1 if there was one. */
    static void close(String test) {
        System.out.println(test + ": " + (wrong == 0 ? "all answers are as due" : wrong + " answers are not as due"));
        if (wrong != 0) {
            System.exit(1);
        }
    }

    static void due(String what, long got, long want) {
        if (got != want) {
            wrong++;
            System.out.println(what + " answered " + got + ", due is " + want);
        }
    }

    static int caught(Call call) {
        try {
            return call.answer();
        } catch (NoSuchElementException e) {
            return THROWN;
        }
    }

    private int same(String call, int got, int want) {
        due(name + ": " + call, got, want);
        return got;
    }

    boolean feed(int a, int b, int c, int d, int e) {
        return same("feed", gate.feed(a, b, c, d, e) ? 1 : 0, oracle.feed(a, b, c, d, e) ? 1 : 0) == 1;
    }

    boolean end(int n) {
        return same("end(" + n + ")", gate.end(n) ? 1 : 0, oracle.end(n) ? 1 : 0) == 1;
    }

    int hash() {
        return same("hash()", gate.hash(), oracle.hash());
    }

    int group() {
        return same("group()", gate.group(), oracle.group());
    }

    int times() {
        return same("times()", gate.times(), oracle.times());
    }

    int result(int i) {
        return same("result(" + i + ")", caught(() -> gate.result(i)), caught(() -> oracle.result(i)));
    }

    int enroll(int user) {
        return same("enroll(" + user + ")", gate.enroll(user), oracle.enroll(user));
    }

    int begin(int session, int user) {
        return same("begin(" + session + ", " + user + ")", gate.begin(session, user), oracle.begin(session, user));
    }

    int answer(int session) {
        return same("answer(" + session + ")", gate.answer(session), oracle.answer(session));
    }

    int finish(int session) {
        return same("finish(" + session + ")", gate.finish(session), oracle.finish(session));
    }

    int accept(int session) {
        return same("accept(" + session + ")", gate.accept(session), oracle.accept(session));
    }

    int wire(int session, int message, int i) {
        return same("wire(" + session + ", " + message + ", " + i + ")",
            caught(() -> gate.wire(session, message, i)), caught(() -> oracle.wire(session, message, i)));
    }

    boolean tamper(int session, int message, int i, int mask) {
        return same("tamper(" + session + ", " + message + ", " + i + ", " + mask + ")",
            gate.tamper(session, message, i, mask) ? 1 : 0, oracle.tamper(session, message, i, mask) ? 1 : 0) == 1;
    }

    int key(int session, int side, int i) {
        return same("key(" + session + ", " + side + ", " + i + ")",
            caught(() -> gate.key(session, side, i)), caught(() -> oracle.key(session, side, i)));
    }

    /** Makes the bytes (at most 200) the text: whole feeds, then an end. */
    void text(byte[] bytes) {
        end(0);
        int[] words = new int[5];
        for (int at = 0; at < bytes.length; at += 20) {
            for (int i = 0; i < 5; i++) {
                words[i] = 0;
                for (int j = 0; j < 4; j++) {
                    int k = at + 4 * i + j;
                    words[i] = words[i] << 8 | (k < bytes.length ? bytes[k] & 255 : 0);
                }
            }
            feed(words[0], words[1], words[2], words[3], words[4]);
        }
        end(bytes.length);
    }

    void text(String letters) {
        text(Oracle.join(letters));
    }

    void hex(String digits) {
        text(bytes(digits));
    }

    static byte[] bytes(String digits) {
        byte[] out = new byte[digits.length() / 2];
        for (int i = 0; i < out.length; i++) {
            out[i] = (byte) Integer.parseInt(digits.substring(2 * i, 2 * i + 2), 16);
        }
        return out;
    }

    String resultHex() {
        StringBuilder out = new StringBuilder();
        for (int i = 0; result(i) != THROWN; i++) {
            out.append(String.format("%02x", result(i)));
        }
        return out.toString();
    }

    /** Reads every byte that may be there, and those just beside, of the result, the wires and the keys. */
    void lookAll() {
        for (int i = -1; i <= 65; i++) {
            result(i);
        }
        for (int session = -1; session <= 4; session++) {
            for (int message = 0; message <= 4; message++) {
                for (int i = -1; i <= 321; i++) {
                    wire(session, message, i);
                }
            }
            for (int side = -1; side <= 3; side++) {
                for (int i = -1; i <= 65; i++) {
                    key(session, side, i);
                }
            }
        }
    }
}
