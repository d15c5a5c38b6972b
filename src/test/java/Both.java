import java.util.ArrayList;
import java.util.List;
import java.util.NoSuchElementException;
import java.util.function.ToIntFunction;

/** A gate and the oracle side by side: every call goes to both, and an answer that is not the oracle's is counted. */
final class Both {
    /** Stands for an answer that is a NoSuchElementException. */
    static final int THROWN = -1000;
    /** So many calls an object is used for; what later ones answer is free, so no test asks them. */
    static final int CALLS = 512;

    private static int wrong;
    private final String name;
    private final int seed;
    private final Oracle oracle;
    private final List<Change> changes = new ArrayList<>();
    private PasswordGate gate;
    private int calls;

    /** A call that may change the object, and what it answered. */
    private record Change(String call, ToIntFunction<PasswordGate> on, int answered) { }

    Both(String name, int seed) {
        this.name = name + ", seed " + seed;
        this.seed = seed;
        gate = new PasswordGate(seed);
        oracle = new Oracle(seed);
    }

    static int wrong() {
        return wrong;
    }

    static void due(String what, long got, long want) {
        if (got != want) {
            wrong++;
            System.out.println(what + " answered " + got + ", due is " + want);
        }
    }

    static void due(String what, boolean got, boolean want) {
        due(what, got ? 1 : 0, want ? 1 : 0);
    }

    static void due(String what, String got, String want) {
        if (!got.equals(want)) {
            wrong++;
            System.out.println(what + " answered " + got + ", due is " + want);
        }
    }

    Oracle oracle() {
        return oracle;
    }

    /** How many more calls that change something the object may take. */
    int left() {
        return CALLS - changes.size();
    }

    /** Whoever wants to look further than 512 calls looks at a new object that was brought to the same state. */
    private void renew() {
        gate = new PasswordGate(seed);
        for (Change change : changes) {
            due(name + ": again " + change.call, change.on.applyAsInt(gate), change.answered);
        }
        calls = changes.size();
    }

    private void count() {
        if (changes.size() >= CALLS) {
            throw new IllegalStateException(name + ": more than " + CALLS + " calls");
        }
        if (calls >= CALLS) {
            renew();
        }
        calls++;
    }

    private int change(String call, ToIntFunction<PasswordGate> on, int want) {
        count();
        int got = on.applyAsInt(gate);
        changes.add(new Change(call, on, got));
        due(name + ": " + call, got, want);
        return got;
    }

    private int look(String call, ToIntFunction<PasswordGate> on, ToIntFunction<Oracle> wanted) {
        count();
        int got = caught(on, gate);
        due(name + ": " + call, got, caught(wanted, oracle));
        return got;
    }

    private static <T> int caught(ToIntFunction<T> call, T on) {
        try {
            return call.applyAsInt(on);
        } catch (NoSuchElementException e) {
            return e.getClass() == NoSuchElementException.class ? THROWN : THROWN - 1;
        }
    }

    boolean feed(int a, int b, int c, int d, int e) {
        return change("feed", g -> g.feed(a, b, c, d, e) ? 1 : 0, oracle.feed(a, b, c, d, e) ? 1 : 0) == 1;
    }

    boolean end(int n) {
        return change("end(" + n + ")", g -> g.end(n) ? 1 : 0, oracle.end(n) ? 1 : 0) == 1;
    }

    int hash() {
        return change("hash()", g -> g.hash(), oracle.hash());
    }

    int group() {
        return change("group()", g -> g.group(), oracle.group());
    }

    int times() {
        return change("times()", g -> g.times(), oracle.times());
    }

    int result(int i) {
        return look("result(" + i + ")", g -> g.result(i), o -> o.result(i));
    }

    int enroll(int user) {
        return change("enroll(" + user + ")", g -> g.enroll(user), oracle.enroll(user));
    }

    int begin(int session, int user) {
        return change("begin(" + session + ", " + user + ")", g -> g.begin(session, user), oracle.begin(session, user));
    }

    int answer(int session) {
        return change("answer(" + session + ")", g -> g.answer(session), oracle.answer(session));
    }

    int finish(int session) {
        return change("finish(" + session + ")", g -> g.finish(session), oracle.finish(session));
    }

    int accept(int session) {
        return change("accept(" + session + ")", g -> g.accept(session), oracle.accept(session));
    }

    int wire(int session, int message, int i) {
        return look("wire(" + session + ", " + message + ", " + i + ")",
            g -> g.wire(session, message, i), o -> o.wire(session, message, i));
    }

    boolean tamper(int session, int message, int i, int mask) {
        return change("tamper(" + session + ", " + message + ", " + i + ", " + mask + ")",
            g -> g.tamper(session, message, i, mask) ? 1 : 0, oracle.tamper(session, message, i, mask) ? 1 : 0) == 1;
    }

    int key(int session, int side, int i) {
        return look("key(" + session + ", " + side + ", " + i + ")",
            g -> g.key(session, side, i), o -> o.key(session, side, i));
    }

    /** Makes the bytes (at most 200) the text: whole feeds, then an end. */
    void text(byte[] bytes) {
        end(0);
        int[] words = new int[5];
        for (int at = 0; at < bytes.length; at += 20) {
            for (int i = 0; i < 5; i++) {
                words[i] = 0;
                for (int j = 0; j < 4; j++) {
                    int k = at + 4 * i + j;
                    words[i] = words[i] << 8 | (k < bytes.length ? bytes[k] & 255 : 0);
                }
            }
            feed(words[0], words[1], words[2], words[3], words[4]);
        }
        end(bytes.length);
    }

    void text(String letters) {
        text(Oracle.join(letters));
    }

    void hex(String digits) {
        text(bytes(digits));
    }

    /** Changes the bytes on the wire into these, from one on. */
    void put(int session, int message, int at, byte[] bytes) {
        for (int i = 0; i < bytes.length; i++) {
            int mask = wire(session, message, at + i) ^ bytes[i] & 255;
            if (mask != 0) {
                tamper(session, message, at + i, mask);
            }
        }
    }

    static byte[] bytes(String digits) {
        byte[] out = new byte[digits.length() / 2];
        for (int i = 0; i < out.length; i++) {
            out[i] = (byte) Integer.parseInt(digits.substring(2 * i, 2 * i + 2), 16);
        }
        return out;
    }

    static String digits(byte[] bytes) {
        StringBuilder out = new StringBuilder();
        for (byte octet : bytes) {
            out.append(String.format("%02x", octet));
        }
        return out.toString();
    }

    private interface Row {
        int at(int i);
    }

    /** The bytes of a row up to where it throws; nothing if there is none. */
    private static String all(Row row) {
        StringBuilder out = new StringBuilder();
        int octet = row.at(0);
        for (int i = 1; octet != THROWN && i <= CALLS; i++) {
            out.append(String.format("%02x", octet));
            octet = row.at(i);
        }
        return out.toString();
    }

    String resultHex() {
        return all(this::result);
    }

    String wireHex(int session, int message) {
        return all(i -> wire(session, message, i));
    }

    String keyHex(int session, int side) {
        return all(i -> key(session, side, i));
    }

    /** Reads every byte that is there of the result, the wires and the keys, and those just beside. */
    void lookAll() {
        result(-1);
        resultHex();
        for (int session = 0; session < 4; session++) {
            for (int message = 1; message <= 3; message++) {
                wire(session, message, -1);
                wireHex(session, message);
            }
            for (int side = 0; side <= 2; side++) {
                key(session, side, -1);
                keyHex(session, side);
            }
        }
    }
}
