import java.util.function.Consumer;

/** Promises 8 to 15: enrolling, the three messages of a session, the wire and the keys. */
public final class SessionTest {
    private static final int THROWN = Both.THROWN;
    private static final int MIN = Integer.MIN_VALUE;
    private static final int MAX = Integer.MAX_VALUE;
    private static final int[] LENGTHS = {0, 96, 320, 64};
    private static final int[] NO_USERS = {-1, 8, 9, 256, MIN, MAX};
    private static final int[] NO_SESSIONS = {-1, 4, 5, 256, MIN, MAX};
    private static final int BEGUN = 1;
    private static final int ANSWERED = 2;
    private static final int FINISHED = 3;
    private static final int ACCEPTED = 4;

    public static void main(String[] args) {
        Suite suite = new Suite("SessionTest", args);
        enroll(suite);
        enrollPasswords(suite);
        enrollAnew(suite);
        begin(suite);
        beginAnew(suite);
        beginRefused(suite);
        answer(suite);
        answerFaults(suite);
        answerNotDue(suite);
        finish(suite);
        finishFaults(suite);
        finishNotDue(suite);
        accept(suite);
        sides(suite);
        wire(suite);
        tamper(suite);
        key(suite);
        suite.close();
    }

    private static Both fresh() {
        return new Both("a gate", 7);
    }

    private static void due(String what, long got, long want) {
        Both.due(what, got, want);
    }

    private static void due(String what, boolean got, boolean want) {
        Both.due(what, got, want);
    }

    private static void due(String what, String got, String want) {
        Both.due(what, got, want);
    }

    private static int enroll(Both x, int user, String password) {
        x.text(password);
        return x.enroll(user);
    }

    private static int begin(Both x, int session, int user, String password) {
        x.text(password);
        return x.begin(session, user);
    }

    /** A whole talk; what finish answers. */
    private static int open(Both x, int session, int user, String password) {
        begin(x, session, user, password);
        due("answer", x.answer(session), 0);
        return x.finish(session);
    }

    /** User 1 is enrolled, and his session 2 has come to a stage. */
    private static Both at(int stage) {
        Both x = fresh();
        due("enroll", enroll(x, 1, "secret"), 0);
        due("begin", begin(x, 2, 1, "secret"), 0);
        if (stage >= ANSWERED) {
            due("answer", x.answer(2), 0);
        }
        if (stage >= FINISHED) {
            due("finish", x.finish(2), 0);
        }
        if (stage >= ACCEPTED) {
            due("accept", x.accept(2), 0);
        }
        return x;
    }

    /** What the next calls of chance make: it tells how many were called before. */
    private static String nextChance(Both x) {
        begin(x, 0, 0, "next");
        return x.wireHex(0, 1);
    }

    /** The call makes the same chance come next as if it had not been. */
    private static void dueNoChance(int stage, Consumer<Both> call) {
        Both with = at(stage);
        call.accept(with);
        due("the next chance", nextChance(with), nextChance(at(stage)));
    }

    private static void dueNoMessage(Both x, int session, int message) {
        due("no message " + message, x.wire(session, message, 0), THROWN);
        due("no byte of message " + message, x.tamper(session, message, 0, 1), false);
    }

    private static void dueNoKeys(Both x, int session) {
        for (int side = 0; side <= 2; side++) {
            due("no key of side " + side, x.key(session, side, 0), THROWN);
        }
    }

    private static void enroll(Suite suite) {
        suite.test("8: a user 0 .. 7 is enrolled: 0", () -> {
            Both x = fresh();
            for (int user = 0; user < 8; user++) {
                due("enroll", enroll(x, user, "secret" + user), 0);
            }
            for (int user = 0; user < 8; user++) {
                due("his own password", open(x, 3, user, "secret" + user), 0);
                due("accept", x.accept(3), 0);
                due("another's password", open(x, 3, user, "secret" + (user + 1)), 3);
            }
        });
        suite.test("8: the first and the last user", () -> {
            for (int user : new int[] {0, 7}) {
                Both x = fresh();
                due("enroll", enroll(x, user, "secret"), 0);
                due("he is enrolled", open(x, 0, user, "secret"), 0);
                due("his neighbour is not", open(x, 0, 7 - user, "secret"), 3);
            }
        });
        suite.test("8: NONE for another user", () -> {
            for (int user : NO_USERS) {
                Both x = fresh();
                due("enroll(" + user + ")", enroll(x, user, "secret"), -1);
            }
        });
        suite.test("8: NONE for another user: nobody is enrolled by it", () -> {
            for (int user : new int[] {-1, 8}) {
                Both x = fresh();
                enroll(x, user, "secret");
                for (int other = 0; other < 8; other++) {
                    due("not enrolled", open(x, 0, other, "secret"), 3);
                }
            }
        });
        suite.test("8: NONE for another user: who was enrolled stays so", () -> {
            for (int user : new int[] {-1, 8}) {
                Both x = fresh();
                enroll(x, 0, "secret");
                enroll(x, 7, "secret");
                enroll(x, user, "other");
                due("the first", open(x, 0, 0, "secret"), 0);
                due("the last", open(x, 0, 7, "secret"), 0);
            }
        });
        suite.test("8: NONE for another user (no chance is called then)", () -> {
            for (int user : NO_USERS) {
                dueNoChance(BEGUN, x -> enroll(x, user, "secret"));
            }
        });
        suite.test("8: the nonce is one call of chance", () -> {
            Both x = fresh();
            enroll(x, 0, "secret");
            String first = nextChance(x);
            Both y = fresh();
            due("none called", nextChance(y).equals(first), false);
            enroll(y, 0, "secret");
            due("others follow", nextChance(y).equals(first), false);
        });
    }

    private static void enrollPasswords(Suite suite) {
        suite.test("8: the text as the password: an empty one", () -> {
            Both x = fresh();
            due("enroll", x.enroll(0), 0);
            due("right", open(x, 0, 0, ""), 0);
            due("accept", x.accept(0), 0);
            due("a byte of 0 is not empty", open(x, 0, 0, "\0"), 3);
        });
        suite.test("8: the text as the password: a full one", () -> {
            String longest = "x".repeat(200);
            Both x = fresh();
            due("enroll", enroll(x, 0, longest), 0);
            due("right", open(x, 0, 0, longest), 0);
            due("accept", x.accept(0), 0);
            due("one byte fewer", open(x, 0, 0, "x".repeat(199)), 3);
            due("another last byte", open(x, 0, 0, "x".repeat(199) + "y"), 3);
        });
        suite.test("8: the text as the password: one byte more or fewer, or another", () -> {
            Both x = fresh();
            enroll(x, 0, "secret");
            for (String other : new String[] {"", "secre", "secrets", "secret\0", "Secret", "secreu", "\0secret"}) {
                due("not " + other, open(x, 0, 0, other), 3);
            }
            due("the right one", open(x, 0, 0, "secret"), 0);
        });
        suite.test("8: the text as the password: what was cut off does not count", () -> {
            Both x = fresh();
            x.text("secret, and more than that");
            x.end(6);
            x.enroll(0);
            due("the rest", open(x, 0, 0, "secret"), 0);
        });
    }

    private static void enrollAnew(Suite suite) {
        suite.test("8: anew: the new password opens, the old one does not", () -> {
            Both x = at(BEGUN);
            due("enroll", enroll(x, 1, "new"), 0);
            due("the new one", open(x, 0, 1, "new"), 0);
            due("the old one", open(x, 1, 1, "secret"), 3);
        });
        suite.test("8: anew with the same password: another nonce, so another export key", () -> {
            Both x = at(ACCEPTED);
            String before = x.keyHex(2, 2);
            enroll(x, 1, "secret");
            due("opens", open(x, 2, 1, "secret"), 0);
            due("the same key", x.keyHex(2, 2).equals(before), false);
        });
        suite.test("8: anew: the other users stay", () -> {
            Both x = fresh();
            enroll(x, 0, "zero");
            enroll(x, 1, "one");
            enroll(x, 2, "two");
            enroll(x, 1, "new");
            due("user 0", open(x, 0, 0, "zero"), 0);
            due("user 2", open(x, 0, 2, "two"), 0);
        });
        suite.test("8: sessions that were answered stay as they are: the client's side", () -> {
            Both x = at(ANSWERED);
            String before = x.wireHex(2, 2);
            enroll(x, 1, "new");
            due("message 2", x.wireHex(2, 2), before);
            due("finish", x.finish(2), 0);
            due("accept", x.accept(2), 0);
            due("one key", x.keyHex(2, 0), x.keyHex(2, 1));
        });
        suite.test("8: sessions that were answered stay as they are: the server's side", () -> {
            Both x = at(FINISHED);
            enroll(x, 1, "new");
            due("accept", x.accept(2), 0);
            due("one key", x.keyHex(2, 0), x.keyHex(2, 1));
            enroll(x, 1, "newer");
            x.lookAll();
        });
        suite.test("8: sessions that were answered stay as they are: who was not enrolled then", () -> {
            Both x = fresh();
            begin(x, 0, 4, "secret");
            x.answer(0);
            enroll(x, 4, "secret");
            due("finish", x.finish(0), 3);
        });
        suite.test("8: a session that was not answered is answered by what is enrolled then", () -> {
            Both x = at(BEGUN);
            begin(x, 0, 1, "new");
            begin(x, 1, 6, "late");
            enroll(x, 1, "new");
            enroll(x, 6, "late");
            for (int session = 0; session < 3; session++) {
                due("answer", x.answer(session), 0);
            }
            due("the new password", x.finish(0), 0);
            due("enrolled behind begin", x.finish(1), 0);
            due("the old password", x.finish(2), 3);
        });
    }

    private static void begin(Suite suite) {
        suite.test("9: sessions 0 .. 3 begin: 0", () -> {
            for (int session = 0; session < 4; session++) {
                Both x = fresh();
                due("begin", begin(x, session, 1, "secret"), 0);
                for (int other = 0; other < 4; other++) {
                    due("message 1 of " + other, x.wire(other, 1, 0) >= 0, other == session);
                }
            }
        });
        suite.test("9: users 0 .. 7, enrolled or not: 0", () -> {
            Both x = fresh();
            enroll(x, 0, "secret");
            enroll(x, 7, "secret");
            for (int user = 0; user < 8; user++) {
                due("begin", begin(x, 1, user, "secret"), 0);
            }
        });
        suite.test("9: message 1 has 96 bytes", () -> due("digits", at(BEGUN).wireHex(2, 1).length(), 192));
        suite.test("9: an empty and a full password", () -> {
            for (String password : new String[] {"", "x".repeat(200)}) {
                Both x = fresh();
                due("begin", begin(x, 0, 0, password), 0);
                x.wireHex(0, 1);
            }
        });
        suite.test("9: a scalar, a nonce, a scalar by chance, through all sessions", () -> {
            Both x = fresh();
            for (int session = 0; session < 4; session++) {
                begin(x, session, 1, "secret");
                for (int before = 0; before < session; before++) {
                    String old = x.wireHex(before, 1);
                    String made = x.wireHex(session, 1);
                    for (int part = 0; part < 192; part += 64) {
                        due("the same", old.substring(part, part + 64).equals(made.substring(part, part + 64)), false);
                    }
                }
            }
        });
        suite.test("9: sessions are apart", () -> {
            Both x = fresh();
            enroll(x, 0, "zero");
            enroll(x, 1, "one");
            for (int session = 0; session < 4; session++) {
                begin(x, session, session & 1, (session & 1) == 0 ? "zero" : "one");
            }
            for (int session = 3; session >= 0; session--) {
                due("answer", x.answer(session), 0);
            }
            for (int session : new int[] {2, 0, 3, 1}) {
                due("finish", x.finish(session), 0);
            }
            for (int session : new int[] {1, 3, 2, 0}) {
                due("accept", x.accept(session), 0);
                due("one key", x.keyHex(session, 0), x.keyHex(session, 1));
            }
            due("another session, another key", x.keyHex(0, 0).equals(x.keyHex(2, 0)), false);
            x.lookAll();
        });
    }

    /** After begin there is a new message 1 and nothing else. */
    private static void dueBegunAnew(Both x, String old) {
        due("begin", begin(x, 2, 1, "secret"), 0);
        due("message 1 is the old one", x.wireHex(2, 1).equals(old), false);
        dueNoMessage(x, 2, 2);
        dueNoMessage(x, 2, 3);
        dueNoKeys(x, 2);
        due("nothing to finish", x.finish(2), 2);
        due("nothing to accept", x.accept(2), 2);
        due("answer", x.answer(2), 0);
        dueNoMessage(x, 2, 3);
        dueNoKeys(x, 2);
        due("finish", x.finish(2), 0);
        due("accept", x.accept(2), 0);
        due("one key", x.keyHex(2, 0), x.keyHex(2, 1));
    }

    private static void beginAnew(Suite suite) {
        for (int stage = BEGUN; stage <= ACCEPTED; stage++) {
            int reached = stage;
            suite.test("9: anew (messages and keys of before are gone), from stage " + stage, () -> {
                Both x = at(reached);
                dueBegunAnew(x, x.wireHex(2, 1));
            });
        }
        suite.test("9: anew behind an answer of 1", () -> {
            Both x = at(BEGUN);
            x.tamper(2, 1, 0, 1);
            due("answer", x.answer(2), 1);
            dueBegunAnew(x, x.wireHex(2, 1));
        });
        suite.test("9: anew behind a finish with a fault", () -> {
            Both x = at(ANSWERED);
            x.tamper(2, 2, 300, 1);
            due("finish", x.finish(2), 4);
            dueBegunAnew(x, x.wireHex(2, 1));
        });
        suite.test("9: anew behind an accept of 5", () -> {
            Both x = at(FINISHED);
            x.tamper(2, 3, 0, 1);
            due("accept", x.accept(2), 5);
            dueBegunAnew(x, x.wireHex(2, 1));
        });
        suite.test("9: anew for another user and with another password", () -> {
            Both x = at(ANSWERED);
            enroll(x, 6, "other");
            due("begin", begin(x, 2, 6, "other"), 0);
            x.answer(2);
            due("finish", x.finish(2), 0);
            due("accept", x.accept(2), 0);
            begin(x, 2, 7, "other");
            x.answer(2);
            due("who is not enrolled", x.finish(2), 3);
        });
        suite.test("9: anew: the other sessions stay", () -> {
            Both x = at(FINISHED);
            begin(x, 1, 1, "secret");
            begin(x, 3, 1, "secret");
            due("accept", x.accept(2), 0);
            due("one key", x.keyHex(2, 0), x.keyHex(2, 1));
        });
    }

    private static void dueRefused(int session, int user) {
        for (int stage = BEGUN; stage <= ACCEPTED; stage++) {
            Both x = at(stage);
            due("begin(" + session + ", " + user + ")", begin(x, session, user, "other"), -1);
            x.lookAll();
            due("answer", x.answer(2), stage == BEGUN ? 0 : 2);
            due("finish", x.finish(2), stage <= ANSWERED ? 0 : 2);
            due("accept", x.accept(2), stage <= FINISHED ? 0 : 2);
        }
    }

    private static void beginRefused(Suite suite) {
        suite.test("9: NONE for another session", () -> {
            for (int session : NO_SESSIONS) {
                due("begin", begin(fresh(), session, 1, "secret"), -1);
            }
        });
        suite.test("9: NONE for another user", () -> {
            for (int user : NO_USERS) {
                Both x = fresh();
                due("begin", begin(x, 2, user, "secret"), -1);
                dueNoMessage(x, 2, 1);
                due("no session", x.answer(2), 2);
            }
        });
        suite.test("9: NONE for another session and another user", () ->
            due("begin", begin(fresh(), 4, 8, "secret"), -1));
        suite.test("9: NONE changes no session: another session", () -> dueRefused(4, 1));
        suite.test("9: NONE changes no session: another user", () -> dueRefused(2, 8));
        suite.test("9: NONE calls no chance", () -> {
            dueNoChance(BEGUN, x -> begin(x, 4, 1, "secret"));
            dueNoChance(BEGUN, x -> begin(x, -1, 1, "secret"));
            dueNoChance(BEGUN, x -> begin(x, 2, 8, "secret"));
            dueNoChance(BEGUN, x -> begin(x, 2, -1, "secret"));
        });
    }

    private static void answer(Suite suite) {
        suite.test("10: makes message 2: 0, of 320 bytes", () -> {
            Both x = at(BEGUN);
            dueNoMessage(x, 2, 2);
            due("answer", x.answer(2), 0);
            due("digits", x.wireHex(2, 2).length(), 640);
        });
        suite.test("10: every session", () -> {
            for (int session = 0; session < 4; session++) {
                Both x = fresh();
                enroll(x, 7, "secret");
                due("a whole talk", open(x, session, 7, "secret"), 0);
                due("accept", x.accept(session), 0);
            }
        });
        suite.test("10: for a user that is not enrolled first a record by chance", () -> {
            Both x = fresh();
            for (int session = 0; session < 4; session++) {
                due("begin", begin(x, session, 4, "secret"), 0);
                due("answer", x.answer(session), 0);
                due("digits", x.wireHex(session, 2).length(), 640);
            }
            due("the same masks", x.wireHex(0, 2).substring(64, 384).equals(x.wireHex(1, 2).substring(64, 384)), false);
            String next = nextChance(x);
            Both y = fresh();
            enroll(y, 4, "secret");
            for (int session = 0; session < 4; session++) {
                begin(y, session, 4, "secret");
                y.answer(session);
            }
            due("as many chances as for one who is enrolled", nextChance(y).equals(next), false);
        });
        suite.test("10: a made up record is not kept", () -> {
            Both x = fresh();
            begin(x, 0, 4, "secret");
            x.answer(0);
            begin(x, 0, 4, "secret");
            x.answer(0);
            x.lookAll();
            due("finish", x.finish(0), 3);
            due("enroll", enroll(x, 4, "secret"), 0);
            due("enrolled now", open(x, 0, 4, "secret"), 0);
        });
        suite.test("10: the nonce of message 1 may be any bytes", () -> {
            for (String nonce : new String[] {"00".repeat(32), "ff".repeat(32)}) {
                Both x = at(BEGUN);
                x.put(2, 1, 32, Both.bytes(nonce));
                due("answer", x.answer(2), 0);
                due("the client sent another", x.finish(2), 4);
            }
        });
        suite.test("10: points of message 1 may be any points, 0 too", () -> {
            byte[] point = Oracle.open(Oracle.TWO);
            for (byte[] any : new byte[][] {point, new byte[32]}) {
                Both x = at(BEGUN);
                x.put(2, 1, 0, any);
                due("the first", x.answer(2), 0);
                x.wireHex(2, 2);
                due("the password's point is another", x.finish(2), 3);
                x = at(BEGUN);
                x.put(2, 1, 64, any);
                due("the last", x.answer(2), 0);
                x.wireHex(2, 2);
                due("the client's public is another", x.finish(2), 4);
            }
        });
    }

    private static void dueNoPoint(int where, byte[] none) {
        Both x = at(BEGUN);
        x.put(2, 1, where, none);
        due("answer, at " + where + " " + Both.digits(none), x.answer(2), 1);
    }

    private static void answerFaults(Suite suite) {
        String nearP = "ff".repeat(30) + "7f";
        String[] none = {
            "01" + "00".repeat(31), "ed" + nearP, "ee" + nearP, "00".repeat(31) + "80", "ff".repeat(32), "ec" + nearP,
            "26948d35ca62e643e26a83177332e6b6afeb9d08e4268b650f1f5bbd8d81d371",
            "3eb858e78f5a7254d8c9731174a94f76755fd3941c0ac93735c07ba14579630e",
        };
        suite.test("10: 1: the first 32 bytes are no point", () -> {
            for (String digits : none) {
                dueNoPoint(0, Both.bytes(digits));
            }
        });
        suite.test("10: 1: the last 32 bytes are no point", () -> {
            for (String digits : none) {
                dueNoPoint(64, Both.bytes(digits));
            }
        });
        for (int where : new int[] {0, 64}) {
            suite.test("10: 1 (no message 2 then), point at " + where, () -> {
                Both x = at(BEGUN);
                x.tamper(2, 1, where, 1);
                due("answer", x.answer(2), 1);
                dueNoMessage(x, 2, 2);
                due("nothing to read", x.finish(2), 2);
            });
            suite.test("10: 1 (no chance called), point at " + where, () -> dueNoChance(BEGUN, x -> {
                x.tamper(2, 1, where, 1);
                due("answer", x.answer(2), 1);
            }));
            suite.test("10: 1 (no chance called), who is not enrolled, point at " + where, () ->
                dueNoFakeChance(where));
            suite.test("10: 1 (message 1 counts as answered), point at " + where, () -> {
                Both x = at(BEGUN);
                x.tamper(2, 1, where, 1);
                due("answer", x.answer(2), 1);
                due("again", x.answer(2), 2);
                x.tamper(2, 1, where, 1);
                due("mended too late", x.answer(2), 2);
                dueNoMessage(x, 2, 2);
            });
        }
    }

    private static void dueNoFakeChance(int where) {
        Both x = fresh();
        begin(x, 2, 5, "secret");
        x.tamper(2, 1, where, 1);
        due("answer", x.answer(2), 1);
        Both y = fresh();
        begin(y, 2, 5, "secret");
        due("the next chance", nextChance(x), nextChance(y));
    }

    private static void answerNotDue(Suite suite) {
        suite.test("10: 2: there is no message 1", () -> {
            Both x = at(BEGUN);
            for (int session : new int[] {0, 1, 3}) {
                due("answer", x.answer(session), 2);
                dueNoMessage(x, session, 2);
            }
        });
        suite.test("10: 2: it was answered", () -> {
            for (int stage = ANSWERED; stage <= ACCEPTED; stage++) {
                Both x = at(stage);
                String before = x.wireHex(2, 2);
                due("answer", x.answer(2), 2);
                due("message 2 stays", x.wireHex(2, 2), before);
                x.lookAll();
            }
        });
        suite.test("10: 2: it was answered, and then changed", () -> {
            Both x = at(ANSWERED);
            x.tamper(2, 1, 40, 255);
            due("answer", x.answer(2), 2);
            due("what was answered stays", x.finish(2), 0);
            due("accept", x.accept(2), 0);
        });
        suite.test("10: 2 calls no chance", () -> {
            dueNoChance(BEGUN, x -> x.answer(1));
            dueNoChance(ANSWERED, x -> x.answer(2));
        });
        suite.test("10: NONE for another session", () -> {
            for (int session : NO_SESSIONS) {
                Both x = at(BEGUN);
                due("answer", x.answer(session), -1);
                due("session 2 stays", x.answer(2), 0);
            }
        });
        suite.test("10: NONE calls no chance", () -> dueNoChance(BEGUN, x -> x.answer(4)));
    }

    private static void finish(Suite suite) {
        suite.test("11: makes message 3: 0, of 64 bytes", () -> {
            Both x = at(ANSWERED);
            dueNoMessage(x, 2, 3);
            due("finish", x.finish(2), 0);
            due("digits", x.wireHex(2, 3).length(), 128);
        });
        suite.test("11: finish calls no chance", () -> dueNoChance(ANSWERED, x -> x.finish(2)));
        suite.test("11: 3 when the password is not the one that was enrolled", () -> {
            Both x = at(BEGUN);
            due("finish", open(x, 2, 1, "Secret"), 3);
        });
        suite.test("11: 3 when the user is not enrolled", () -> due("finish", open(at(BEGUN), 2, 0, "secret"), 3));
        suite.test("11: a byte changed and changed back does not matter", () -> {
            for (int i : new int[] {0, 31, 32, 64, 192, 224, 256, 319}) {
                Both x = at(ANSWERED);
                x.tamper(2, 2, i, 77);
                x.tamper(2, 2, i, 77);
                due("finish", x.finish(2), 0);
            }
        });
    }

    /** The fault, and neither message 3 nor a key. */
    private static void dueFault(Both x, int fault) {
        due("finish", x.finish(2), fault);
        dueNoMessage(x, 2, 3);
        dueNoKeys(x, 2);
        due("nothing to accept", x.accept(2), 2);
    }

    private static void dueFaultAt(int i, int mask, int fault) {
        Both x = at(ANSWERED);
        x.tamper(2, 2, i, mask);
        dueFault(x, fault);
    }

    private static void finishFaults(Suite suite) {
        suite.test("11: 1: the first 32 bytes are no point", () -> {
            dueFaultAt(0, 1, 1);
            dueFaultAt(31, 128, 1);
        });
        suite.test("11: 1: the server's public of y is no point", () -> {
            dueFaultAt(224, 1, 1);
            dueFaultAt(255, 128, 1);
        });
        suite.test("11: 3: the first 32 bytes are another point, 0 too", () -> {
            for (byte[] point : new byte[][] {Oracle.open(Oracle.TWO), new byte[32]}) {
                Both x = at(ANSWERED);
                x.put(2, 2, 0, point);
                dueFault(x, 3);
            }
        });
        suite.test("11: 3: the nonce m, S' and the envelope, from the first byte to the last", () -> {
            for (int i : new int[] {32, 63, 64, 95, 96, 127, 128, 190, 191}) {
                dueFaultAt(i, 1, 3);
                dueFaultAt(i, 128, 3);
            }
        });
        suite.test("11: 4: the server's nonce, from the first byte to the last", () -> {
            for (int i : new int[] {192, 193, 222, 223}) {
                dueFaultAt(i, 1, 4);
                dueFaultAt(i, 128, 4);
            }
        });
        suite.test("11: 4: the server's public of y is another point, 0 too", () -> {
            for (byte[] point : new byte[][] {Oracle.open(Oracle.TWO), new byte[32]}) {
                Both x = at(ANSWERED);
                x.put(2, 2, 224, point);
                dueFault(x, 4);
            }
        });
        suite.test("11: 4: the server's MAC, each of its bytes", () -> {
            for (int i = 256; i < 320; i++) {
                dueFaultAt(i, 1 << (i & 7), 4);
            }
        });
        suite.test("11: each byte ahead of the MAC", () -> {
            for (int i = 0; i < 256; i += 3) {
                Both x = at(ANSWERED);
                x.tamper(2, 2, i, 4);
                boolean point = i < 32 || i >= 224;
                int fault = x.finish(2);
                due("a fault at " + i, point && fault == 1 || fault == (i < 192 ? 3 : 4), true);
            }
        });
        suite.test("11: 1 ahead of 3: the first point is asked ahead of the envelope", () -> {
            Both x = at(ANSWERED);
            x.tamper(2, 2, 100, 1);
            x.tamper(2, 2, 0, 1);
            dueFault(x, 1);
        });
        suite.test("11: 3 ahead of 1: the envelope is asked ahead of the server's point", () -> {
            Both x = at(ANSWERED);
            x.tamper(2, 2, 100, 1);
            x.tamper(2, 2, 224, 1);
            dueFault(x, 3);
        });
        suite.test("11: 3 ahead of 4: the envelope is asked ahead of the server's MAC", () -> {
            Both x = at(ANSWERED);
            x.tamper(2, 2, 191, 1);
            x.tamper(2, 2, 319, 1);
            dueFault(x, 3);
        });
        suite.test("11: 1 ahead of 4: the server's MAC is asked last", () -> {
            Both x = at(ANSWERED);
            x.tamper(2, 2, 319, 1);
            x.tamper(2, 2, 224, 1);
            dueFault(x, 1);
        });
    }

    private static void finishNotDue(Suite suite) {
        suite.test("11: 2: there is no message 2", () -> {
            Both x = at(BEGUN);
            for (int session = 0; session < 4; session++) {
                due("finish", x.finish(session), 2);
                dueNoMessage(x, session, 3);
            }
            due("it is not read by that", x.answer(2), 0);
            due("finish", x.finish(2), 0);
        });
        suite.test("11: 2: it was read", () -> {
            for (int stage = FINISHED; stage <= ACCEPTED; stage++) {
                Both x = at(stage);
                due("finish", x.finish(2), 2);
                x.lookAll();
                due("accept", x.accept(2), stage == FINISHED ? 0 : 2);
            }
        });
        suite.test("11: 2: it was read, and then changed", () -> {
            Both x = at(FINISHED);
            x.tamper(2, 2, 5, 1);
            due("finish", x.finish(2), 2);
            due("accept", x.accept(2), 0);
        });
        int[][] faults = {{0, 1}, {100, 3}, {224, 1}, {256, 4}};
        for (int[] fault : faults) {
            suite.test("11: 2: it was read (also with a fault), byte " + fault[0], () -> {
                Both x = at(ANSWERED);
                x.tamper(2, 2, fault[0], 1);
                due("finish", x.finish(2), fault[1]);
                due("again", x.finish(2), 2);
                x.tamper(2, 2, fault[0], 1);
                due("mended too late", x.finish(2), 2);
                dueNoMessage(x, 2, 3);
                dueNoKeys(x, 2);
            });
        }
        suite.test("11: NONE for another session", () -> {
            for (int session : NO_SESSIONS) {
                Both x = at(ANSWERED);
                due("finish", x.finish(session), -1);
                due("session 2 stays", x.finish(2), 0);
            }
        });
    }

    private static void accept(Suite suite) {
        suite.test("12: reads message 3: 0", () -> {
            Both x = at(FINISHED);
            due("accept", x.accept(2), 0);
            due("one key", x.keyHex(2, 0), x.keyHex(2, 1));
        });
        suite.test("12: accept calls no chance", () -> dueNoChance(FINISHED, x -> x.accept(2)));
        suite.test("12: 5: each byte of message 3", () -> {
            for (int i = 0; i < 64; i++) {
                Both x = at(FINISHED);
                x.tamper(2, 3, i, 1 << (i & 7));
                due("accept", x.accept(2), 5);
                due("the server has no key", x.key(2, 1, 0), THROWN);
                due("the client has his", x.key(2, 0, 0) >= 0, true);
                due("and his export key", x.key(2, 2, 0) >= 0, true);
            }
        });
        suite.test("12: 2: there is no message 3", () -> {
            Both x = at(ANSWERED);
            for (int session = 0; session < 4; session++) {
                due("accept", x.accept(session), 2);
            }
            due("it is not read by that", x.finish(2), 0);
            due("accept", x.accept(2), 0);
        });
        suite.test("12: 2: it was read", () -> {
            Both x = at(ACCEPTED);
            String before = x.keyHex(2, 1);
            due("accept", x.accept(2), 2);
            x.tamper(2, 3, 0, 1);
            due("changed later", x.accept(2), 2);
            due("the key stays", x.keyHex(2, 1), before);
        });
        suite.test("12: 2: it was read (also with 5)", () -> {
            Both x = at(FINISHED);
            x.tamper(2, 3, 63, 128);
            due("accept", x.accept(2), 5);
            due("again", x.accept(2), 2);
            x.tamper(2, 3, 63, 128);
            due("mended too late", x.accept(2), 2);
            due("no key", x.key(2, 1, 0), THROWN);
        });
        suite.test("12: a byte changed and changed back does not matter", () -> {
            Both x = at(FINISHED);
            x.tamper(2, 3, 9, 200);
            x.tamper(2, 3, 9, 200);
            due("accept", x.accept(2), 0);
        });
        suite.test("12: NONE for another session", () -> {
            for (int session : NO_SESSIONS) {
                Both x = at(FINISHED);
                due("accept", x.accept(session), -1);
                due("session 2 stays", x.accept(2), 0);
            }
        });
    }

    private static void sides(Suite suite) {
        suite.test("Terms: what the client sent it has itself as it was", () -> {
            for (int i : new int[] {0, 32, 64, 95}) {
                Both x = at(ANSWERED);
                x.tamper(2, 1, i, 1);
                due("finish", x.finish(2), 0);
                due("accept", x.accept(2), 0);
            }
        });
        suite.test("Terms: what the server reads is from the wire", () -> {
            Both x = at(BEGUN);
            x.tamper(2, 1, 33, 1);
            x.answer(2);
            x.tamper(2, 1, 33, 1);
            due("the server has read another nonce", x.finish(2), 4);
        });
        suite.test("Terms: what the server sent and read it has itself as it was", () -> {
            for (int i : new int[] {0, 40, 100, 200, 224, 256, 319}) {
                Both x = at(FINISHED);
                x.tamper(2, 2, i, 1);
                x.tamper(2, 1, i % 96, 1);
                due("accept", x.accept(2), 0);
                due("one key", x.keyHex(2, 0), x.keyHex(2, 1));
            }
        });
        suite.test("Terms: what the client reads is from the wire", () -> {
            Both x = at(BEGUN);
            begin(x, 0, 1, "secret");
            x.answer(0);
            x.answer(2);
            byte[] others = Both.bytes(x.wireHex(0, 2));
            x.put(2, 2, 0, others);
            due("another session's message opens nothing", x.finish(2), 3);
        });
        suite.test("Terms: message 3 of another session is not this one's", () -> {
            Both x = at(FINISHED);
            due("another", open(x, 0, 1, "secret"), 0);
            x.put(2, 3, 0, Both.bytes(x.wireHex(0, 3)));
            due("accept", x.accept(2), 5);
            due("accept", x.accept(0), 0);
        });
    }

    private static void wire(Suite suite) {
        for (int message = 1; message <= 3; message++) {
            int told = message;
            suite.test("13: byte i of message " + message + ": the first and the last", () -> {
                Both x = at(ACCEPTED);
                due("first", x.wire(2, told, 0) >= 0, true);
                due("last", x.wire(2, told, LENGTHS[told] - 1) >= 0, true);
            });
            suite.test("13: NoSuchElementException: behind and ahead of message " + message, () -> {
                Both x = at(ACCEPTED);
                for (int i : new int[] {LENGTHS[told], LENGTHS[told] + 1, MAX, -1, MIN}) {
                    due("wire " + i, x.wire(2, told, i), THROWN);
                }
            });
        }
        suite.test("13: NoSuchElementException: messages that are not made yet", () -> {
            for (int stage = BEGUN; stage <= FINISHED; stage++) {
                Both x = at(stage);
                for (int message = 1; message <= 3; message++) {
                    due("wire", x.wire(2, message, 0) >= 0, message <= stage);
                }
            }
        });
        suite.test("13: NoSuchElementException: there is no such message", () -> {
            Both x = at(ACCEPTED);
            for (int message : new int[] {0, -1, 4, 257, MIN, MAX}) {
                due("wire", x.wire(2, message, 0), THROWN);
            }
        });
        suite.test("13: NoSuchElementException: there is no such session", () -> {
            Both x = at(ACCEPTED);
            for (int session : NO_SESSIONS) {
                due("wire", x.wire(session, 1, 0), THROWN);
            }
        });
        suite.test("13: NoSuchElementException: a session that did not begin", () -> {
            Both x = at(ACCEPTED);
            for (int session : new int[] {0, 1, 3}) {
                due("wire", x.wire(session, 1, 0), THROWN);
            }
        });
        suite.test("13: bytes are 0 to 255", () -> {
            Both x = at(ACCEPTED);
            for (int i = 0; i < 320; i++) {
                int octet = x.wire(2, 2, i);
                due("a byte", octet >= 0 && octet <= 255, true);
            }
        });
        suite.test("13: messages stay on the wire when they were read", () -> {
            Both x = at(BEGUN);
            String first = x.wireHex(2, 1);
            x.answer(2);
            String second = x.wireHex(2, 2);
            x.finish(2);
            String third = x.wireHex(2, 3);
            x.accept(2);
            due("message 1", x.wireHex(2, 1), first);
            due("message 2", x.wireHex(2, 2), second);
            due("message 3", x.wireHex(2, 3), third);
        });
    }

    private static void tamper(Suite suite) {
        suite.test("14: the bits of a mask are turned round", () -> {
            Both x = at(ANSWERED);
            int before = x.wire(2, 2, 17);
            for (int mask : new int[] {0xa5, 1, 128, 255}) {
                due("tamper", x.tamper(2, 2, 17, mask), true);
                before ^= mask;
                due("wire", x.wire(2, 2, 17), before);
            }
        });
        suite.test("14: its lowest 8", () -> {
            Both x = at(ANSWERED);
            int before = x.wire(2, 2, 17);
            for (int mask : new int[] {256, 0x7fffff00, MIN, -256}) {
                due("tamper", x.tamper(2, 2, 17, mask), true);
                due("nothing turned by " + mask, x.wire(2, 2, 17), before);
            }
            x.tamper(2, 2, 17, -1);
            due("all turned", x.wire(2, 2, 17), before ^ 255);
            x.tamper(2, 2, 17, 0x1ff);
            due("and back", x.wire(2, 2, 17), before);
        });
        suite.test("14: a mask of 0 turns nothing, and is true", () -> {
            Both x = at(BEGUN);
            int before = x.wire(2, 1, 3);
            due("tamper", x.tamper(2, 1, 3, 0), true);
            due("wire", x.wire(2, 1, 3), before);
        });
        suite.test("14: no other byte is changed", () -> {
            Both x = at(FINISHED);
            begin(x, 1, 1, "secret");
            x.answer(1);
            x.tamper(2, 2, 17, 90);
            x.lookAll();
        });
        for (int message = 1; message <= 3; message++) {
            int told = message;
            suite.test("14: the first and the last byte of message " + message, () -> {
                Both x = at(FINISHED);
                for (int i : new int[] {0, LENGTHS[told] - 1}) {
                    int before = x.wire(2, told, i);
                    due("tamper", x.tamper(2, told, i, 129), true);
                    due("wire", x.wire(2, told, i), before ^ 129);
                }
            });
            suite.test("14: false when there is none: behind and ahead of message " + message, () -> {
                Both x = at(FINISHED);
                for (int i : new int[] {LENGTHS[told], MAX, -1, MIN}) {
                    due("tamper", x.tamper(2, told, i, 129), false);
                }
                x.lookAll();
            });
        }
        suite.test("14: false when there is none: messages that are not made yet", () -> {
            for (int stage = BEGUN; stage <= FINISHED; stage++) {
                Both x = at(stage);
                for (int message = 1; message <= 3; message++) {
                    due("tamper", x.tamper(2, message, 0, 1), message <= stage);
                }
            }
        });
        suite.test("14: false when there is none: it changes no message that is made later", () -> {
            Both x = at(BEGUN);
            x.tamper(2, 2, 300, 1);
            x.tamper(2, 3, 5, 1);
            x.answer(2);
            due("finish", x.finish(2), 0);
            due("accept", x.accept(2), 0);
        });
        suite.test("14: false when there is none: no such message", () -> {
            Both x = at(FINISHED);
            for (int message : new int[] {0, -1, 4, 257, MIN, MAX}) {
                due("tamper", x.tamper(2, message, 0, 1), false);
            }
            x.lookAll();
        });
        suite.test("14: false when there is none: no such session", () -> {
            Both x = at(FINISHED);
            for (int session : NO_SESSIONS) {
                due("tamper", x.tamper(session, 1, 0, 1), false);
            }
            due("one that did not begin", x.tamper(0, 1, 0, 1), false);
            x.lookAll();
        });
        suite.test("14: a message that was read can be changed still", () -> {
            Both x = at(ACCEPTED);
            for (int message = 1; message <= 3; message++) {
                int before = x.wire(2, message, 1);
                due("tamper", x.tamper(2, message, 1, 8), true);
                due("wire", x.wire(2, message, 1), before ^ 8);
            }
        });
    }

    private static void key(Suite suite) {
        suite.test("15: side 0 the client's (when finish was 0)", () -> {
            due("ahead of it", at(ANSWERED).key(2, 0, 0), THROWN);
            due("digits", at(FINISHED).keyHex(2, 0).length(), 128);
        });
        suite.test("15: side 1 the server's (when accept was 0)", () -> {
            due("ahead of it", at(FINISHED).key(2, 1, 0), THROWN);
            due("digits", at(ACCEPTED).keyHex(2, 1).length(), 128);
        });
        suite.test("15: side 2 the client's export key (when finish was 0)", () -> {
            due("ahead of it", at(ANSWERED).key(2, 2, 0), THROWN);
            due("digits", at(FINISHED).keyHex(2, 2).length(), 128);
        });
        suite.test("15: both sides have one session key, and the export key is another", () -> {
            Both x = at(ACCEPTED);
            due("session key", x.keyHex(2, 0), x.keyHex(2, 1));
            due("export key", x.keyHex(2, 2).equals(x.keyHex(2, 0)), false);
        });
        suite.test("15: one enrolling has one export key, but each session its own session key", () -> {
            Both x = at(ACCEPTED);
            due("another session", open(x, 3, 1, "secret"), 0);
            due("export key", x.keyHex(3, 2), x.keyHex(2, 2));
            due("session key", x.keyHex(3, 0).equals(x.keyHex(2, 0)), false);
        });
        suite.test("15: keys stay when accept is 5 or a call is refused", () -> {
            Both x = at(FINISHED);
            String client = x.keyHex(2, 0);
            String export = x.keyHex(2, 2);
            x.tamper(2, 3, 1, 1);
            x.accept(2);
            x.accept(2);
            x.finish(2);
            x.answer(2);
            begin(x, 4, 1, "secret");
            due("client's", x.keyHex(2, 0), client);
            due("export", x.keyHex(2, 2), export);
        });
        for (int side = 0; side <= 2; side++) {
            int told = side;
            suite.test("15: NoSuchElementException: behind and ahead of side " + side, () -> {
                Both x = at(ACCEPTED);
                due("the last", x.key(2, told, 63) >= 0, true);
                for (int i : new int[] {64, 65, MAX, -1, MIN}) {
                    due("key", x.key(2, told, i), THROWN);
                }
            });
        }
        suite.test("15: NoSuchElementException: there is no such side", () -> {
            Both x = at(ACCEPTED);
            for (int side : new int[] {-1, 3, 4, 256, MIN, MAX}) {
                due("key", x.key(2, side, 0), THROWN);
            }
        });
        suite.test("15: NoSuchElementException: there is no such session", () -> {
            Both x = at(ACCEPTED);
            for (int session : NO_SESSIONS) {
                due("key", x.key(session, 0, 0), THROWN);
            }
            for (int session : new int[] {0, 1, 3}) {
                due("one that did not begin", x.key(session, 0, 0), THROWN);
            }
        });
        suite.test("15: NoSuchElementException: finish was 1, 3 or 4", () -> {
            int[][] faults = {{0, 1}, {100, 3}, {224, 1}, {256, 4}};
            for (int[] fault : faults) {
                dueFaultAt(fault[0], 1, fault[1]);
            }
        });
    }
}
