/** Courts made ready for tests. */
final class Courts {
    static final int NONE = KeyringCourt.NONE;

    private Courts() {
    }

    /** A court whose one version grants at once. */
    static KeyringCourt open() {
        KeyringCourt court = new KeyringCourt();
        court.step(KeyringCourt.GRANT, 0, 0, NONE, NONE);
        court.publish();
        return court;
    }

    /** A court whose one version asks for a factor, and denies after so many wrong answers. */
    static KeyringCourt asking(int factor, int times) {
        KeyringCourt court = new KeyringCourt();
        court.step(KeyringCourt.ASK, factor, times, 1, NONE);
        court.step(KeyringCourt.GRANT, 0, 0, NONE, NONE);
        court.publish();
        return court;
    }

    /** A court whose one version tests once, and grants for yes and denies for no. */
    static KeyringCourt testing(int kind, int a) {
        KeyringCourt court = new KeyringCourt();
        court.step(kind, a, 0, 1, 2);
        court.step(KeyringCourt.GRANT, 0, 0, NONE, NONE);
        court.step(KeyringCourt.DENY, 0, 0, NONE, NONE);
        court.publish();
        return court;
    }

    /** A session of a person by the foreign account of the same number, with these factors enrolled anew and shown. */
    static int signIn(KeyringCourt court, int person, int... factors) {
        court.link(person, person);
        int session = court.foreign(person);
        for (int factor : factors) {
            court.enroll(person, factor);
            court.stepUp(session, factor, true, 1);
        }
        return session;
    }

    /** A family of a session, for a client and an audience, with all scopes. */
    static int family(KeyringCourt court, int session, int client, int audience) {
        court.consent(NONE, client, 15);
        return court.redeem(court.authorize(session, client, audience, 15));
    }

    /** Lets minutes pass while these sessions are used, so that they are not ended for being idle. */
    static void passUsing(KeyringCourt court, int minutes, int... sessions) {
        for (int left = minutes; left > 0; left -= 20) {
            court.pass(Math.min(20, left));
            for (int session : sessions) {
                // A client that nobody consented to: it comes to UNASKED, but uses the session.
                court.authorize(session, 3, 3, 15);
            }
        }
    }

    static void repeat(int times, Runnable what) {
        for (int i = 0; i < times; i++) {
            what.run();
        }
    }
}
