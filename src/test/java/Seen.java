/** All that can be seen of a court by calls that change nothing, as one text. */
final class Seen {
    private interface Look {
        void at(int number);
    }

    private final StringBuilder text = new StringBuilder();
    private final KeyringCourt court;

    private Seen(KeyringCourt court) {
        this.court = court;
    }

    static String of(KeyringCourt court) {
        Seen seen = new Seen(court);
        seen.lookAtAll();
        return seen.text.toString();
    }

    static int count(java.util.function.IntConsumer look) {
        int n = 0;
        try {
            for (; n < 2000; n++) {
                look.accept(n);
            }
        } catch (IndexOutOfBoundsException e) {
            return n;
        }
        return n;
    }

    private void lookAtAll() {
        for (int person = 0; person < 6; person++) {
            for (int factor = 0; factor < 3; factor++) {
                put(court.factor(person, factor));
            }
        }
        each("versions", i -> put(court.weakest(i)));
        each("attempts", this::putAttempt);
        each("sessions", this::putSession);
        each("families", this::putFamily);
        each("tokens", this::putToken);
        each("keys", i -> put(Due.one(court.isPublished(i))));
        put(court.sessions());
        put(court.signing());
        put(court.audits());
        put(court.sum());
    }

    private void putAttempt(int attempt) {
        put(court.state(attempt));
        put(court.asked(attempt));
        put(court.sessionOf(attempt));
        put(court.risk(attempt));
        put(court.trialRisk(attempt));
    }

    private void putSession(int session) {
        put(Due.one(court.isLive(session)));
        put(Due.one(court.isLiveByAudit(session)));
        put(court.level(session));
    }

    private void putFamily(int family) {
        put(Due.one(court.isGood(family)));
        put(court.tokenOf(family));
    }

    private void putToken(int token) {
        put(court.token(token));
        put(court.lag(token));
    }

    private void each(String what, Look look) {
        text.append(what);
        count(look::at);
    }

    private void put(long value) {
        text.append(' ').append(value);
    }
}
