/** Promises 17 to 24: sessions, isLive, isLiveByAudit, level, stepUp, signOut, helper, act. */
public final class SessionsTest {
    private static final Due due = new Due();
    private static final int PASSWORD = KeyringCourt.PASSWORD, CODE = KeyringCourt.CODE, STICK = KeyringCourt.STICK;

    public static void main(String[] args) {
        countsAndLooks();
        levels();
        steppingUp();
        stepUpUsesTheSession();
        stepUpRanges();
        signingOut();
        endsInOrder();
        helpers();
        acting();
        actRefused();
        actIsNoUse();
        actMost();
        due.end("SessionsTest");
    }

    private static void countsAndLooks() {
        KeyringCourt x = Courts.open();
        due.is("17: none", 0, x.sessions());
        due.index("18: no session", x, () -> Due.one(x.isLive(0)));
        due.index("19: no session", x, () -> Due.one(x.isLiveByAudit(0)));
        due.index("20: no session", x, () -> x.level(0));
        x.begin(0, 0, 0);
        x.begin(1, 0, 0);
        due.is("17: two have begun", 2, x.sessions());
        due.yes("18: live", x.isLive(1));
        due.yes("19: live by the audit", x.isLiveByAudit(1));
        x.signOut(1);
        due.is("17: two have begun, still", 2, x.sessions());
        due.no("18: ended", x.isLive(1));
        due.no("19: ended by the audit", x.isLiveByAudit(1));
        due.yes("18: the other one is live", x.isLive(0));
        due.yes("19: the other one, by the audit", x.isLiveByAudit(0));
        due.is("20: a level is told of one that is not live", 0, x.level(1));
        due.index("18: -1", x, () -> Due.one(x.isLive(-1)));
        due.index("18: 2", x, () -> Due.one(x.isLive(2)));
        due.index("19: -1", x, () -> Due.one(x.isLiveByAudit(-1)));
        due.index("19: 2", x, () -> Due.one(x.isLiveByAudit(2)));
        due.index("20: -1", x, () -> x.level(-1));
        due.index("20: 2", x, () -> x.level(2));
    }

    private static void levels() {
        KeyringCourt x = Courts.open();
        int session = Courts.signIn(x, 0, PASSWORD);
        due.is("20: PASSWORD", 1, x.level(session));
        x.pass(10);
        x.enroll(0, CODE);
        x.stepUp(session, CODE, true, 0);
        due.is("20: PASSWORD and CODE", 3, x.level(session));
        Courts.passUsing(x, 110, session);
        due.is("20: 120 minutes ago", 3, x.level(session));
        x.pass(1);
        due.is("20: 121 minutes ago", 2, x.level(session));
        x.stepUp(session, PASSWORD, true, 0);
        due.is("20: shown again", 3, x.level(session));
        x.pass(600);
        due.is("20: ended, and nothing counts any more", 0, x.level(session));
        int other = Courts.signIn(x, 1, PASSWORD, CODE, STICK);
        due.is("20: all", 6, x.level(other));
        x.signOut(other);
        due.is("20: live or not", 6, x.level(other));
    }

    private static void steppingUp() {
        KeyringCourt x = Courts.open();
        int session = Courts.signIn(x, 0);
        x.enroll(0, STICK);
        due.is("21: wrong, nothing is shown", 0, x.stepUp(session, STICK, false, 1));
        due.is("21: right", 3, x.stepUp(session, STICK, true, 9999));
        due.is("21: an absent factor is wrong", 3, x.stepUp(session, CODE, true, 0));
        due.is("21: a clone is wrong, what was shown stays", 3, x.stepUp(session, STICK, true, 9999));
        due.is("21: the factor is suspended by that", KeyringCourt.SUSPENDED, x.factor(0, STICK));
        x.begin(0, 0, 0);
        due.is("21: three wrong answers are noted", 3, x.risk(0));
        x.enroll(0, PASSWORD);
        due.is("21: PASSWORD besides", 4, x.stepUp(session, PASSWORD, true, 0));
        int other = Courts.signIn(x, 0);
        due.is("21: another session of the person shows nothing by that", 0, x.level(other));
    }

    private static void stepUpUsesTheSession() {
        KeyringCourt x = Courts.open();
        int session = Courts.signIn(x, 0, PASSWORD);
        int idle = Courts.signIn(x, 1);
        x.pass(30);
        x.stepUp(session, PASSWORD, false, 0);
        due.is("21: a wrong answer uses it too; the other one is ended", 1, x.pass(30));
        due.yes("21: it is live", x.isLive(session));
        due.no("21: the other is not", x.isLive(idle));
        x.stepUp(session, PASSWORD, true, 0);
        due.is("21: used in this minute", 0, x.pass(30));
        due.is("21: used 31 minutes ago", 1, x.pass(1));
    }

    private static void stepUpRanges() {
        KeyringCourt x = Courts.open();
        int session = Courts.signIn(x, 0, STICK);
        x.helper(0);
        int acting = x.act(session, 1);
        x.enroll(1, PASSWORD);
        due.index("21: no session", x, () -> x.stepUp(2, 0, true, 0));
        due.index("21: the session comes first", x, () -> x.stepUp(-1, 3, true, -1));
        due.argument("21: factor 3", x, () -> x.stepUp(session, 3, true, 0));
        due.argument("21: factor -1", x, () -> x.stepUp(session, -1, true, 0));
        due.argument("21: counter -1", x, () -> x.stepUp(session, 0, true, -1));
        due.argument("21: counter 10000", x, () -> x.stepUp(session, 2, true, 10000));
        due.state("21: it belongs to another one", x, () -> x.stepUp(acting, PASSWORD, true, 0));
        due.argument("21: the factor comes before that", x, () -> x.stepUp(acting, 3, true, 0));
        x.signOut(session);
        due.state("21: it is not live", x, () -> x.stepUp(session, PASSWORD, true, 0));
        due.argument("21: the counter comes before that", x, () -> x.stepUp(session, 0, true, 10000));
    }

    private static void signingOut() {
        KeyringCourt x = Courts.open();
        int session = Courts.signIn(x, 0, STICK);
        int other = Courts.signIn(x, 0);
        x.helper(0);
        int first = x.act(session, 1);
        int second = x.act(session, 2);
        due.index("22: no session", x, () -> x.signOut(4));
        due.index("22: -1", x, () -> x.signOut(-1));
        due.is("22: one that belongs to another one, alone", 1, x.signOut(first));
        due.state("22: it is not live", x, () -> x.signOut(first));
        due.is("22: with the one that belongs to it still", 2, x.signOut(session));
        due.no("22: that is ended", x.isLive(second));
        due.yes("22: another one of the person is not", x.isLive(other));
        due.state("22: not live", x, () -> x.signOut(session));
    }

    private static void endsInOrder() {
        KeyringCourt x = Courts.open();
        int session = Courts.signIn(x, 0, STICK);
        x.helper(0);
        int ownFirst = Courts.family(x, session, 0, 0);
        int one = x.act(session, 1);
        int two = x.act(session, 2);
        int ofTwo = Courts.family(x, two, 1, 1);
        int ofOne = Courts.family(x, one, 1, 1);
        int ofOneAgain = Courts.family(x, one, 0, 2);
        int ownLast = Courts.family(x, session, 2, 2);
        int before = x.audits();
        due.is("22: three sessions", 3, x.signOut(session));
        int[] entries = {1000 + session, 1000 + one, 3000 + ofOne, 3000 + ofOneAgain, 1000 + two, 3000 + ofTwo, 3000 + ownFirst, 3000 + ownLast};
        due.is("22: so many entries", before + entries.length, x.audits());
        for (int i = 0; i < entries.length; i++) {
            due.is("22: the entry " + i, entries[i], x.audit(before + i));
        }
    }

    private static void helpers() {
        KeyringCourt x = Courts.open();
        due.yes("23: a helper", x.helper(5));
        due.no("23: no more", x.helper(5));
        due.yes("23: again", x.helper(5));
        due.yes("23: another person", x.helper(0));
        due.index("23: person 6", x, () -> Due.one(x.helper(6)));
        due.index("23: person -1", x, () -> Due.one(x.helper(-1)));
    }

    private static void acting() {
        KeyringCourt x = Courts.open();
        int session = Courts.signIn(x, 0, STICK);
        x.helper(0);
        x.pass(20);
        int acting = x.act(session, 1);
        due.is("24: the next session", 1, acting);
        due.is("24: its entry", acting, x.audit(x.audits() - 1));
        due.is("24: a copy of what was shown", 3, x.level(acting));
        x.enroll(0, PASSWORD);
        x.stepUp(session, PASSWORD, true, 0);
        due.is("24: the helper's level rises", 4, x.level(session));
        due.is("24: the copy stays", 3, x.level(acting));
        x.consent(1, 0, 1);
        due.is("24: it is a session of that person", 0, x.authorize(acting, 0, 0, 1));
        Courts.passUsing(x, 100, session, acting);
        due.is("24: the copy's minutes are those of the showing", 3, x.level(acting));
        x.pass(1);
        due.is("24: 121 minutes ago", 0, x.level(acting));
        due.is("24: the helper's shows PASSWORD still", 1, x.level(session));
        x.helper(0);
        due.yes("24: no helper any more, it goes on", x.isLive(acting));
        due.is("24: it ends with the helper's", 2, x.signOut(session));
    }

    private static void actRefused() {
        KeyringCourt x = Courts.open();
        int session = Courts.signIn(x, 0, STICK);
        due.state("24: no helper", x, () -> x.act(session, 1));
        x.helper(0);
        due.index("24: no session", x, () -> x.act(1, 1));
        due.index("24: session -1", x, () -> x.act(-1, 1));
        due.index("24: person 6", x, () -> x.act(session, 6));
        due.index("24: person -1", x, () -> x.act(session, -1));
        due.state("24: the helper's own person", x, () -> x.act(session, 0));
        x.leave(2);
        due.state("24: the person is away", x, () -> x.act(session, 2));
        x.helper(1);
        int acting = x.act(session, 1);
        due.state("24: it belongs to another one, though its person is a helper", x, () -> x.act(acting, 3));
        x.signOut(acting);
        int low = Courts.signIn(x, 0, CODE);
        due.state("24: a level of 2", x, () -> x.act(low, 1));
        x.stepUp(low, PASSWORD, true, 0);
        due.state("24: a level of 2 still, as PASSWORD is absent", x, () -> x.act(low, 1));
        x.enroll(0, PASSWORD);
        x.stepUp(low, PASSWORD, true, 0);
        due.is("24: a level of 3", 3, x.act(low, 1));
        x.signOut(session);
        due.state("24: not live", x, () -> x.act(session, 1));
        due.index("24: the person comes first", x, () -> x.act(session, 6));
    }

    private static void actIsNoUse() {
        KeyringCourt x = Courts.open();
        int session = Courts.signIn(x, 0, STICK);
        x.helper(0);
        x.pass(30);
        x.act(session, 1);
        due.is("24: to act is no use of the helper's session", 2, x.pass(1));
    }

    private static void actMost() {
        KeyringCourt x = Courts.open();
        int session = Courts.signIn(x, 0, STICK);
        x.helper(0);
        Courts.repeat(59, () -> x.act(session, 1));
        due.is("17: 60", 60, x.sessions());
        due.state("24: there are 60 sessions", x, () -> x.act(session, 1));
        due.is("22: all are ended", 60, x.signOut(session));
        due.state("47: 60 have begun, live or not", x, () -> x.foreign(0));
    }
}
