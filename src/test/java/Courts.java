/** Courts made ready for tests. */
final class Courts {
    static final int NONE = KeyringCourt.NONE;

    private Courts() {
    }

    /** A court whose one version grants at once. */
    static KeyringCourt open() {
        KeyringCourt court = new KeyringCourt();
        court.step(KeyringCourt.GRANT, 0, 0, NONE, NONE);
        court.publish();
        return court;
    }

    /** A court whose one version asks for a factor, and denies after so many wrong answers. */
    static KeyringCourt asking(int factor, int times) {
        KeyringCourt court = new KeyringCourt();
        court.step(KeyringCourt.ASK, factor, times, 1, NONE);
        court.step(KeyringCourt.GRANT, 0, 0, NONE, NONE);
        court.publish();
        return court;
    }

    /** A court whose one version tests once, and grants for yes and denies for no. */
    static KeyringCourt testing(int kind, int a) {
        KeyringCourt court = new KeyringCourt();
        court.step(kind, a, 0, 1, 2);
        court.step(KeyringCourt.GRANT, 0, 0, NONE, NONE);
        court.step(KeyringCourt.DENY, 0, 0, NONE, NONE);
        court.publish();
        return court;
    }

    /** A session of a person by the foreign account of the same number, with these factors enrolled anew and shown. */
    static int signIn(KeyringCourt court, int person, int... factors) {
        court.link(person, person);
        int session = court.foreign(person);
        for (int factor : factors) {
            court.enroll(person, factor);
            court.stepUp(session, factor, true, 1);
        }
        return session;
    }

    /** A family of a session, for a client and an audience, with all scopes. */
    static int family(KeyringCourt court, int session, int client, int audience) {
        court.consent(NONE, client, 15);
        return court.redeem(court.authorize(session, client, audience, 15));
    }

    /** Lets minutes pass while these sessions are used, so that they are not ended for being idle. */
    static void passUsing(KeyringCourt court, int minutes, int... sessions) {
        for (int left = minutes; left > 0; left -= 20) {
            court.pass(Math.min(20, left));
            for (int session : sessions) {
                // A client that nobody consented to: it comes to UNASKED, but uses the session.
                court.authorize(session, 3, 3, 15);
            }
        }
    }

    static void repeat(int times, Runnable what) {
        for (int i = 0; i < times; i++) {
            what.run();
        }
    }

    /**
     * A court with some of everything, of which each number from 0 to the last one can be used: two versions and a draft of
     * a step, the attempts 0 and 1 that ask, the sessions 0 to 2 of helpers, the codes 0 to 3, of which 1 and 2 are
     * redeemed, the families 0 and 1, the tokens 0 to 3 with all scopes, a key that waits, a line that is down, a person who
     * is away, and the recoveries 0 and 1. It is the minute 10.
     */
    static KeyringCourt busy() {
        KeyringCourt court = open();
        court.step(KeyringCourt.ASK, KeyringCourt.PASSWORD, 2, 1, NONE);
        court.step(KeyringCourt.ASK, KeyringCourt.STICK, 3, 2, NONE);
        court.step(KeyringCourt.GRANT, 0, 0, NONE, NONE);
        court.publish();
        court.step(KeyringCourt.KNOWN, 0, 0, NONE, NONE);
        court.pass(7);
        for (int person = 1; person <= 3; person++) {
            signIn(court, person, KeyringCourt.STICK);
            court.stepUp(person - 1, KeyringCourt.STICK, true, 5);
            court.helper(person);
        }
        addAttemptsAndRecoveries(court);
        court.pass(2);
        addGrants(court);
        court.points(KeyringCourt.NEW_PLACE, 3, false);
        court.points(KeyringCourt.WRONGS, 2, true);
        court.leave(4);
        court.turn();
        court.line(3);
        // A minute later, so that it is seen if a call that is refused uses a session.
        court.pass(1);
        return court;
    }

    private static void addAttemptsAndRecoveries(KeyringCourt court) {
        for (int person = 0; person <= 5; person += 5) {
            court.link(person, person);
            court.enroll(person, KeyringCourt.PASSWORD);
            court.enroll(person, KeyringCourt.STICK);
            int attempt = court.begin(person, 1, 2);
            court.answer(attempt, false, 0);
            court.vouch(court.recover(person), 1);
        }
    }

    private static void addGrants(KeyringCourt court) {
        for (int client = 0; client < 4; client++) {
            court.consent(NONE, client, 15);
        }
        court.consent(2, 3, 5);
        court.need(2, 3);
        for (int i = 0; i < 4; i++) {
            court.authorize(i % 2, 1, 2, 15);
        }
        court.redeem(1);
        court.redeem(2);
        court.refresh(0, 0);
        court.exchange(1, 3, 15);
    }

    /** The same with no session live, and so no family good. */
    static KeyringCourt signedOut() {
        KeyringCourt court = busy();
        for (int session = 0; session < 3; session++) {
            court.signOut(session);
        }
        return court;
    }

    /** The same at the minute 30000. */
    static KeyringCourt late() {
        KeyringCourt court = busy();
        repeat(49, () -> court.pass(600));
        court.pass(590);
        return court;
    }

    /** A court with as many sessions of the person 0 as that. */
    static KeyringCourt withSessions(int count) {
        KeyringCourt court = open();
        court.link(0, 0);
        repeat(count, () -> court.foreign(0));
        return court;
    }

    /** A court with one family of the person 0, for the client 0 and the audience 0, with as many tokens as that, and a code. */
    static KeyringCourt withTokens(int count) {
        KeyringCourt court = open();
        int session = signIn(court, 0);
        int family = family(court, session, 0, 0);
        for (int number = 0; number < count - 1; number++) {
            court.refresh(family, number);
        }
        court.authorize(session, 0, 0, 15);
        return court;
    }
}
