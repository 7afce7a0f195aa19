/**
 * What is learnt of a court by going on with it. Calls that only look do not show all of it (the draft, consents, who is
 * away, when a session was used last and so on); each way here shows a part of that, and spoils the court by it.
 */
final class Probe {
    static final int WAYS = 11;

    private final KeyringCourt court;
    private final StringBuilder text = new StringBuilder();

    private Probe(KeyringCourt court) {
        this.court = court;
    }

    static String of(KeyringCourt court, int way) {
        Probe probe = new Probe(court);
        switch (way) {
            case 0: return Seen.of(court);
            case 1: probe.settings(); break;
            case 2: probe.people(); break;
            case 3: probe.minutes(); break;
            case 4: probe.flowsAndAnswers(); break;
            case 5: probe.grants(); break;
            case 6: probe.tokens(); break;
            case 7: probe.recoveries(true); break;
            case 8: probe.recoveries(false); break;
            case 9: probe.caches(); break;
            default: probe.factors(); break;
        }
        return probe.text.toString();
    }

    private String call(String name, Object... values) {
        String answer = Calls.play(court, name, values);
        text.append(name).append(java.util.Arrays.toString(values)).append('=').append(answer).append(' ');
        return answer;
    }

    /** The numbers of at most six things of a kind: the first three and the last three. */
    private int[] some(java.util.function.IntConsumer look) {
        int count = Seen.count(look);
        int[] numbers = new int[Math.min(6, count)];
        for (int i = 0; i < numbers.length; i++) {
            numbers[i] = i < 3 ? i : count - numbers.length + i;
        }
        return numbers;
    }

    private int[] someSessions() {
        return some(i -> court.isLive(i));
    }

    private void settings() {
        call("clear");
        for (int rule = 0; rule < 3; rule++) {
            call("points", rule, 0, false);
            call("points", rule, 0, true);
        }
        for (int service = 0; service < 4; service++) {
            call("need", service, 0);
            call("line", service);
            for (int person = -1; person < 6; person++) {
                call("consent", person, service, 0);
            }
        }
    }

    private void people() {
        for (int i = 0; i < 6; i++) {
            call("link", i, -1);
            call("helper", i);
            call("recover", i);
            call("leave", i);
        }
        call("sum");
    }

    private void minutes() {
        call("turn");
        for (int i = 0; i < 32; i++) {
            call("pass", 1);
            call("sum");
            call("signing");
        }
        for (int session : someSessions()) {
            call("level", session);
        }
        for (int i = 0; i < 3; i++) {
            call("pass", 30);
            for (int session : someSessions()) {
                call("level", session);
            }
            for (int key : some(k -> court.isPublished(k))) {
                call("isPublished", key);
            }
            for (int attempt : some(a -> court.state(a))) {
                call("risk", attempt);
            }
        }
    }

    private void flowsAndAnswers() {
        call("publish");
        for (int version : some(v -> court.weakest(v))) {
            call("weakest", version);
        }
        for (int attempt : some(a -> court.state(a))) {
            for (int i = 0; i < 4; i++) {
                call("answer", attempt, i == 2, 9000 + i);
                call("asked", attempt);
            }
        }
        for (int person = 0; person < 6; person++) {
            String attempt = call("begin", person, person, 0);
            if (!Calls.isThrown(attempt)) {
                call("risk", Integer.parseInt(attempt));
                call("state", Integer.parseInt(attempt));
            }
        }
        call("sum");
    }

    private void grants() {
        for (int session : someSessions()) {
            call("authorize", session, 1, 2, 9);
            call("authorize", session, 2, 0, 15);
        }
        for (int code = 0; code < 5; code++) {
            call("redeem", code);
        }
        call("sum");
        for (int family : some(f -> court.isGood(f))) {
            call("isGood", family);
            call("tokenOf", family);
        }
    }

    private void tokens() {
        call("pass", 1);
        for (int family : some(f -> court.isGood(f))) {
            for (int number = 3; number >= 0; number--) {
                call("refresh", family, number);
            }
        }
        for (int token : some(t -> court.token(t))) {
            int audience = court.token(token) / 10 % 10;
            for (int scope = 0; scope < 4; scope++) {
                call("check", audience, token, scope);
            }
            call("exchange", token, audience, 1);
        }
        call("sum");
    }

    private void caches() {
        call("emergency");
        for (int token : some(t -> court.token(t))) {
            call("check", court.token(token) / 10 % 10, token, 0);
        }
    }

    /** A call that wrongly changes something hides that when it is called again, so it must not come first in both orders. */
    private void recoveries(boolean isRising) {
        call("recover", 1);
        for (int recovery = 0; recovery < 4; recovery++) {
            int[] sessions = someSessions();
            for (int i = 0; i < sessions.length; i++) {
                call("vouch", recovery, sessions[isRising ? i : sessions.length - 1 - i]);
            }
        }
        call("pass", 59);
        call("finish", 0);
        call("pass", 1);
        for (int recovery = 0; recovery < 4; recovery++) {
            call("finish", recovery);
        }
        call("foreign", 0);
        call("stop", 1, court.sessions() - 1);
        call("sum");
    }

    private void factors() {
        for (int session : someSessions()) {
            for (int i = 0; i < 5; i++) {
                call("stepUp", session, 1, false, 0);
            }
            call("stepUp", session, 2, true, 6);
            call("stepUp", session, 2, true, 6);
        }
        for (int person = 0; person < 6; person++) {
            for (int factor = 0; factor < 3; factor++) {
                call("factor", person, factor);
            }
        }
        call("sum");
    }
}
