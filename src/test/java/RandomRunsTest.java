import java.util.Random;

/** Runs of calls by chance (always the same ones), each answer held against the oracle's. */
public final class RandomRunsTest {
    private static final String[] PASSWORDS = {"", "a", "secret", "secres", "a password that is as long as twenty-six"};
    private static final int[] SEEDS = {0, 1, -1, 7, Integer.MIN_VALUE, Integer.MAX_VALUE, 305419896};
    private static final int[] MASKS = {0, 1, 128, 255, 256, -1, 0x7fffff80};

    private final Random random;
    private final Both both;

    private RandomRunsTest(int run) {
        random = new Random(1000 + run);
        both = new Both("run " + run, run < SEEDS.length ? SEEDS[run] : random.nextInt());
    }

    public static void main(String[] args) {
        Suite suite = new Suite("RandomRunsTest", args);
        for (int run = 0; run < 40; run++) {
            RandomRunsTest told = new RandomRunsTest(run);
            suite.test("run " + run, told::go);
        }
        suite.close();
    }

    private void go() {
        // no step makes more than 40 calls that change something
        for (int step = 0; step < 70 && both.left() > 40; step++) {
            call();
        }
        both.lookAll();
    }

    private int near(int from, int to) {
        int kind = random.nextInt(40);
        return kind == 0 ? from - 1 : kind == 1 ? to + 1 : kind == 2 ? random.nextInt() : from + random.nextInt(to - from + 1);
    }

    private void password() {
        int kind = random.nextInt(8);
        if (kind == 0) {
            byte[] bytes = new byte[random.nextInt(201)];
            random.nextBytes(bytes);
            both.text(bytes);
        } else if (kind < 7) {
            both.text(PASSWORDS[random.nextInt(10) < 7 ? 2 : random.nextInt(PASSWORDS.length)]);
        }
    }

    private void call() {
        switch (random.nextInt(16)) {
            case 0 -> both.feed(random.nextInt(), random.nextInt(), random.nextInt(), random.nextInt(), random.nextInt());
            case 1 -> both.end(near(0, 60));
            case 2 -> both.hash();
            case 3 -> both.group();
            case 4 -> multiple();
            case 5, 6 -> {
                password();
                both.enroll(near(0, 3));
            }
            case 7, 8 -> {
                password();
                both.begin(near(0, 3), near(0, 3));
            }
            case 9 -> both.answer(near(0, 3));
            case 10 -> both.finish(near(0, 3));
            case 11 -> both.accept(near(0, 3));
            case 12 -> tamper(near(0, 3), 1 + random.nextInt(3));
            default -> talk(near(0, 3), near(0, 3));
        }
    }

    /** A whole talk in which a byte is changed now and then. */
    private void talk(int session, int user) {
        password();
        both.begin(session, user);
        sometimesTamper(session, 1);
        both.answer(session);
        sometimesTamper(session, 2);
        both.finish(session);
        sometimesTamper(session, 3);
        both.accept(session);
    }

    private void sometimesTamper(int session, int message) {
        if (random.nextInt(8) == 0) {
            tamper(session, message);
        }
    }

    private void tamper(int session, int message) {
        int last = message == 1 ? 95 : message == 2 ? 319 : 63;
        int mask = random.nextInt(3) > 0 ? 1 << random.nextInt(8) : MASKS[random.nextInt(MASKS.length)];
        both.tamper(session, random.nextInt(20) == 0 ? near(1, 3) : message, near(0, last), mask);
    }

    /** A scalar, often an edge of the modulus, times the result's point or bytes that are none. */
    private void multiple() {
        byte[] scalar = new byte[32];
        random.nextBytes(scalar);
        int kind = random.nextInt(6);
        if (kind < 4) {
            int offset = random.nextInt(5) - 2;
            scalar = Oracle.write(Oracle.Q.multiply(java.math.BigInteger.valueOf(kind * 5L))
                .add(java.math.BigInteger.valueOf(offset)).mod(Oracle.TWO.pow(256)));
        }
        byte[] point = new byte[32];
        random.nextBytes(point);
        if (random.nextInt(4) > 0) {
            point = Oracle.open(new java.math.BigInteger(252, random));
        }
        byte[] more = new byte[random.nextInt(3)];
        both.text(Oracle.join(scalar, point, more));
        if (random.nextInt(10) == 0) {
            both.end(63);
        }
        both.times();
    }
}
