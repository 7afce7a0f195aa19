import java.util.function.IntConsumer;

/** What can be seen of a court by calls that change nothing, as one text. */
final class Seen {
    /** Of more things of a kind than that the first ones and the last ones are looked at, as an object is used for 512 calls. */
    private static final int LOOKS = 24;

    private final StringBuilder text = new StringBuilder();
    private final KeyringCourt court;

    private Seen(KeyringCourt court) {
        this.court = court;
    }

    static String of(KeyringCourt court) {
        Seen seen = new Seen(court);
        seen.lookAtAll();
        return seen.text.toString();
    }

    /** A few things that most changes would show, by four calls. */
    static String briefly(KeyringCourt court) {
        return court.sessions() + " " + court.signing() + " " + court.audits() + " " + court.sum();
    }

    /** How many there are: the first number that is refused, found by doubling, then by halves. */
    static int count(IntConsumer look) {
        int above = 0;
        while (isThere(look, above)) {
            above = 2 * above + 1;
        }
        int below = (above + 1) / 2;
        while (below < above) {
            int middle = (below + above) / 2;
            if (isThere(look, middle)) {
                below = middle + 1;
            } else {
                above = middle;
            }
        }
        return below;
    }

    private static boolean isThere(IntConsumer look, int number) {
        try {
            look.accept(number);
            return true;
        } catch (IndexOutOfBoundsException e) {
            return false;
        }
    }

    private void lookAtAll() {
        for (int person = 0; person < 6; person++) {
            for (int factor = 0; factor < 3; factor++) {
                put(court.factor(person, factor));
            }
        }
        each("versions", i -> court.weakest(i), i -> put(court.weakest(i)));
        each("attempts", i -> court.state(i), this::putAttempt);
        each("sessions", i -> court.isLive(i), this::putSession);
        each("families", i -> court.isGood(i), this::putFamily);
        each("tokens", i -> court.token(i), this::putToken);
        each("keys", i -> court.isPublished(i), i -> put(Due.one(court.isPublished(i))));
        put(court.sessions());
        put(court.signing());
        put(court.audits());
        put(court.sum());
    }

    private void putAttempt(int attempt) {
        put(court.state(attempt));
        put(court.asked(attempt));
        put(court.sessionOf(attempt));
        put(court.risk(attempt));
        put(court.trialRisk(attempt));
    }

    private void putSession(int session) {
        put(Due.one(court.isLive(session)));
        put(Due.one(court.isLiveByAudit(session)));
        put(court.level(session));
    }

    private void putFamily(int family) {
        put(Due.one(court.isGood(family)));
        put(court.tokenOf(family));
    }

    private void putToken(int token) {
        put(court.token(token));
        put(court.lag(token));
    }

    private void each(String what, IntConsumer look, IntConsumer put) {
        int count = count(look);
        text.append(' ').append(what).append(' ').append(count);
        for (int i = 0; i < count; i++) {
            if (i < LOOKS / 2 || i >= count - LOOKS / 2) {
                put.accept(i);
            }
        }
    }

    private void put(long value) {
        text.append(' ').append(value);
    }
}
