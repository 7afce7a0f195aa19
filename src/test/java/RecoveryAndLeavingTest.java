/** Promises 42 to 48: recover, vouch, stop, finish, link, foreign, leave. */
public final class RecoveryAndLeavingTest {
    private static final Due due = new Due();
    private static final int NONE = KeyringCourt.NONE;
    private static final int PASSWORD = KeyringCourt.PASSWORD, CODE = KeyringCourt.CODE, STICK = KeyringCourt.STICK;

    public static void main(String[] args) {
        recovering();
        mostRecoveries();
        vouching();
        vouchRefused();
        stopping();
        stopRefused();
        finishing();
        finishTooSoon();
        finishLevels();
        finishEndsInOrder();
        linking();
        foreignAccounts();
        leaving();
        leavingStopsAndDenies();
        leavingAsAHelper();
        joining();
        due.end("RecoveryAndLeavingTest");
    }

    private static void recovering() {
        KeyringCourt x = Courts.open();
        due.is("42: its number", 0, x.recover(0));
        due.state("42: the person has an open one", x, () -> x.recover(0));
        due.is("42: another person", 1, x.recover(5));
        due.index("42: person 6", x, () -> x.recover(6));
        due.index("42: person -1", x, () -> x.recover(-1));
        x.leave(1);
        due.state("42: the person is away", x, () -> x.recover(1));
        x.leave(1);
        due.is("42: the person joined again", 2, x.recover(1));
        x.stop(0, Courts.signIn(x, 0));
        due.is("42: stopped, another one", 3, x.recover(0));
    }

    private static void mostRecoveries() {
        KeyringCourt x = Courts.open();
        int session = Courts.signIn(x, 0);
        for (int i = 0; i < 20; i++) {
            due.is("42: its number", i, x.recover(0));
            x.stop(i, session);
        }
        due.state("42: there are 20", x, () -> x.recover(0));
        due.state("42: for another person too", x, () -> x.recover(1));
        due.index("44: recovery 20", x, () -> x.stop(20, session));
    }

    private static void vouching() {
        KeyringCourt x = Courts.open();
        int recovery = x.recover(0);
        int three = Courts.signIn(x, 1, STICK);
        int five = Courts.signIn(x, 2, STICK, CODE);
        due.is("43: its level", 3, x.vouch(recovery, three));
        due.is("43: their levels together", 8, x.vouch(recovery, five));
        due.state("43: its person has vouched", x, () -> x.vouch(recovery, three));
        int again = Courts.signIn(x, 1, STICK);
        due.state("43: by another session, too", x, () -> x.vouch(recovery, again));
        int other = x.recover(3);
        due.is("43: for another one the person may", 3, x.vouch(other, again));
        x.enroll(1, PASSWORD);
        x.stepUp(three, PASSWORD, true, 0);
        int six = Courts.signIn(x, 4, PASSWORD, CODE, STICK);
        due.is("43: the level counts as it was then", 14, x.vouch(recovery, six));
        x.signOut(six);
        due.is("44: those who have vouched, live or not", 3, x.stop(recovery, Courts.signIn(x, 0)));
    }

    private static void vouchRefused() {
        KeyringCourt x = Courts.open();
        int own = Courts.signIn(x, 0, STICK);
        int session = Courts.signIn(x, 1, STICK);
        int low = Courts.signIn(x, 2, CODE);
        x.helper(1);
        int acting = x.act(session, 3);
        due.index("43: no recovery", x, () -> x.vouch(0, session));
        int recovery = x.recover(0);
        due.index("43: recovery -1", x, () -> x.vouch(-1, session));
        due.index("43: no session", x, () -> x.vouch(recovery, 4));
        due.index("43: session -1", x, () -> x.vouch(recovery, -1));
        due.state("43: of the person", x, () -> x.vouch(recovery, own));
        due.state("43: a level of 2", x, () -> x.vouch(recovery, low));
        due.state("43: it belongs to another one", x, () -> x.vouch(recovery, acting));
        Courts.passUsing(x, 120, session);
        x.pass(1);
        due.yes("18: live", x.isLive(session));
        due.state("43: its level is 0 now", x, () -> x.vouch(recovery, session));
        x.stepUp(session, STICK, true, 2);
        due.is("43: shown again", 3, x.vouch(recovery, session));
        int left = Courts.signIn(x, 2, STICK);
        x.signOut(left);
        due.state("43: not live", x, () -> x.vouch(recovery, left));
        int last = Courts.signIn(x, 2, STICK);
        x.stop(recovery, Courts.signIn(x, 0));
        due.state("43: not open", x, () -> x.vouch(recovery, last));
        due.index("43: the session comes before that", x, () -> x.vouch(recovery, 60));
    }

    private static void stopping() {
        KeyringCourt x = Courts.open();
        int session = Courts.signIn(x, 0);
        int recovery = x.recover(0);
        due.is("44: none has vouched; a level of 0 is enough", 0, x.stop(recovery, session));
        due.state("44: it is not open", x, () -> x.stop(recovery, session));
        due.state("45: it is not open", x, () -> x.finish(recovery));
        int again = x.recover(0);
        x.vouch(again, Courts.signIn(x, 1, STICK));
        due.is("44: one has vouched", 1, x.stop(again, session));
        due.is("44: to stop is no entry", 2, x.audits());
        x.pass(30);
        int third = x.recover(0);
        x.stop(third, session);
        due.is("44: to stop is no use of the session", 2, x.pass(1));
    }

    private static void stopRefused() {
        KeyringCourt x = Courts.open();
        int session = Courts.signIn(x, 1, STICK);
        int left = Courts.signIn(x, 0);
        x.signOut(left);
        x.helper(1);
        int acting = x.act(session, 0);
        due.index("44: no recovery", x, () -> x.stop(0, session));
        int recovery = x.recover(0);
        due.index("44: recovery -1", x, () -> x.stop(-1, session));
        due.index("44: no session", x, () -> x.stop(recovery, 3));
        due.index("44: session -1", x, () -> x.stop(recovery, -1));
        due.state("44: of another person", x, () -> x.stop(recovery, session));
        due.state("44: not live", x, () -> x.stop(recovery, left));
        due.state("44: of the person, but it belongs to another one", x, () -> x.stop(recovery, acting));
    }

    /** A recovery of the person 0 with two who have vouched with these levels, 60 minutes after its beginning. */
    private static KeyringCourt vouched(int... factors) {
        KeyringCourt x = Courts.open();
        x.recover(0);
        x.vouch(0, Courts.signIn(x, 1, STICK));
        x.vouch(0, Courts.signIn(x, 2, factors));
        x.pass(60);
        return x;
    }

    private static void finishing() {
        KeyringCourt x = vouched(STICK);
        Courts.signIn(x, 0, CODE, STICK);
        Courts.signIn(x, 3);
        x.signOut(Courts.signIn(x, 0));
        Courts.signIn(x, 0);
        due.is("45: two sessions of the person", 2, x.finish(0));
        due.no("45: the first one", x.isLive(2));
        due.yes("45: another person's is live", x.isLive(3));
        due.no("45: the last one", x.isLive(5));
        due.is("45: PASSWORD is enrolled", KeyringCourt.READY, x.factor(0, PASSWORD));
        due.is("45: CODE is absent", KeyringCourt.ABSENT, x.factor(0, CODE));
        due.is("45: STICK is absent", KeyringCourt.ABSENT, x.factor(0, STICK));
        due.is("45: another person's factors stay", KeyringCourt.READY, x.factor(1, STICK));
        due.state("45: not open", x, () -> x.finish(0));
        due.is("42: another one may begin", 1, x.recover(0));
        due.index("45: recovery 2", x, () -> x.finish(2));
        due.index("45: recovery -1", x, () -> x.finish(-1));
        KeyringCourt y = vouched(STICK);
        int session = Courts.signIn(y, 0, PASSWORD);
        Courts.repeat(4, () -> y.stepUp(session, PASSWORD, false, 0));
        due.is("45: with a PASSWORD", 1, y.finish(0));
        int after = Courts.signIn(y, 0);
        Courts.repeat(4, () -> y.stepUp(after, PASSWORD, false, 0));
        due.is("45: PASSWORD has no wrongs in a row", KeyringCourt.READY, y.factor(0, PASSWORD));
        y.stepUp(after, PASSWORD, false, 0);
        due.is("45: then five", KeyringCourt.SUSPENDED, y.factor(0, PASSWORD));
    }

    private static void finishTooSoon() {
        KeyringCourt x = Courts.open();
        x.recover(0);
        x.vouch(0, Courts.signIn(x, 1, STICK));
        x.pass(40);
        x.vouch(0, Courts.signIn(x, 2, STICK));
        x.pass(19);
        due.state("45: it began 59 minutes ago", x, () -> x.finish(0));
        x.pass(1);
        due.is("45: it began 60 minutes ago", 0, x.finish(0));
        int later = x.recover(3);
        x.vouch(later, Courts.signIn(x, 1, STICK));
        x.vouch(later, Courts.signIn(x, 2, STICK));
        x.pass(59);
        due.state("45: one that began in the minute 60, in the minute 119", x, () -> x.finish(later));
        x.pass(1);
        due.is("45: in the minute 120", 0, x.finish(later));
        KeyringCourt y = Courts.open();
        y.recover(0);
        y.pass(100);
        due.state("45: none has vouched", y, () -> y.finish(0));
        y.vouch(0, Courts.signIn(y, 1, STICK, CODE, PASSWORD));
        due.state("45: one has vouched", y, () -> y.finish(0));
        y.vouch(0, Courts.signIn(y, 2, STICK));
        due.is("45: two have vouched", 0, y.finish(0));
    }

    private static void finishLevels() {
        KeyringCourt x = vouched(PASSWORD, CODE);
        x.enroll(0, PASSWORD);
        x.enroll(0, CODE);
        x.enroll(0, STICK);
        due.is("45: 6 are enough for 6", 0, x.finish(0));
        KeyringCourt y = Courts.open();
        int session = Courts.signIn(y, 0, PASSWORD, CODE, STICK);
        due.is("45: no such person can need more than 6", 6, y.level(session));
        KeyringCourt z = vouched(STICK);
        int own = Courts.signIn(z, 0, PASSWORD, CODE, STICK);
        z.stepUp(own, STICK, true, 1);
        due.is("45: suspended", KeyringCourt.SUSPENDED, z.factor(0, STICK));
        due.is("45: a suspended factor is not absent, but 6 are enough", 1, z.finish(0));
    }

    private static void finishEndsInOrder() {
        KeyringCourt x = vouched(STICK);
        int first = Courts.signIn(x, 0, STICK);
        int helper = Courts.signIn(x, 3, STICK);
        x.helper(3);
        x.helper(0);
        int forPerson = x.act(helper, 0);
        int byPerson = x.act(first, 4);
        int family = Courts.family(x, first, 0, 0);
        int before = x.audits();
        due.is("45: those of the person, and what belongs to them", 3, x.finish(0));
        int[] entries = {6000, 1000 + first, 1000 + byPerson, 3000 + family, 1000 + forPerson};
        due.is("45: so many entries", before + entries.length, x.audits());
        for (int i = 0; i < entries.length; i++) {
            due.is("45: the entry " + i, entries[i], x.audit(before + i));
        }
        due.yes("45: the helper's goes on", x.isLive(helper));
    }

    private static void linking() {
        KeyringCourt x = Courts.open();
        due.is("46: none before", NONE, x.link(5, 5));
        due.is("46: to the same person", 5, x.link(5, 5));
        due.state("46: it is linked to another person", x, () -> x.link(5, 4));
        due.is("46: another account of the person", NONE, x.link(0, 5));
        due.is("46: taken away", 5, x.link(5, NONE));
        due.is("46: taken away again", NONE, x.link(5, NONE));
        due.is("46: to another person then", NONE, x.link(5, 0));
        due.index("46: account 6", x, () -> x.link(6, 0));
        due.index("46: account -1", x, () -> x.link(-1, NONE));
        due.index("46: person 6", x, () -> x.link(0, 6));
        due.index("46: person -2", x, () -> x.link(0, -2));
        due.index("46: the person comes before the link", x, () -> x.link(5, 6));
    }

    private static void foreignAccounts() {
        KeyringCourt x = Courts.testing(KeyringCourt.KNOWN, 0);
        due.state("47: not linked", x, () -> x.foreign(0));
        due.index("47: account 6", x, () -> x.foreign(6));
        due.index("47: account -1", x, () -> x.foreign(-1));
        x.link(2, 3);
        x.enroll(3, STICK);
        due.is("47: its session", 0, x.foreign(2));
        due.is("47: nothing was shown", 0, x.level(0));
        due.is("47: its entry", 0, x.audit(0));
        due.is("47: of that person", 3, x.stepUp(0, STICK, true, 1));
        due.is("47: another session", 1, x.foreign(2));
        x.begin(3, 0, 0);
        due.is("47: nothing is learnt by that", 3, x.risk(0));
        x.leave(3);
        due.state("47: the person is away", x, () -> x.foreign(2));
        x.leave(3);
        due.is("47: linked still", 2, x.foreign(2));
        Courts.repeat(57, () -> x.foreign(2));
        due.state("47: there are 60 sessions", x, () -> x.foreign(2));
        due.is("17: 60", 60, x.sessions());
    }

    private static void leaving() {
        KeyringCourt x = Courts.open();
        int first = Courts.signIn(x, 0);
        int other = Courts.signIn(x, 1);
        int second = Courts.signIn(x, 0);
        int family = Courts.family(x, first, 0, 0);
        int before = x.audits();
        due.is("48: two sessions", 2, x.leave(0));
        due.no("48: the first one", x.isLive(first));
        due.no("48: the second one", x.isLive(second));
        due.yes("48: not another person's", x.isLive(other));
        due.is("48: entry of the first one", 1000 + first, x.audit(before));
        due.is("48: entry of its family", 3000 + family, x.audit(before + 1));
        due.is("48: entry of the second one", 1000 + second, x.audit(before + 2));
        due.is("48: no more", before + 3, x.audits());
        due.is("48: joining", NONE, x.leave(0));
        due.no("48: joining brings no session back", x.isLive(first));
        due.is("48: leaving again", 0, x.leave(0));
        due.index("48: person 6", x, () -> x.leave(6));
        due.index("48: person -1", x, () -> x.leave(-1));
    }

    private static void leavingStopsAndDenies() {
        KeyringCourt x = Courts.asking(PASSWORD, 1);
        x.enroll(0, PASSWORD);
        x.begin(0, 0, 0);
        x.begin(1, 0, 0);
        x.begin(0, 0, 0);
        x.answer(2, true, 0);
        int recovery = x.recover(0);
        int others = x.recover(1);
        int vouches = Courts.signIn(x, 2, STICK);
        due.is("48: the session", 1, x.leave(0));
        due.is("48: the attempt that was ASKING", KeyringCourt.DENIED, x.state(0));
        due.is("48: another person's", KeyringCourt.ASKING, x.state(1));
        due.is("48: one that was GRANTED", KeyringCourt.GRANTED, x.state(2));
        due.is("48: it has its session", 0, x.sessionOf(2));
        due.state("11: it is not ASKING", x, () -> x.answer(0, true, 0));
        due.state("43: the recovery is not open", x, () -> x.vouch(recovery, vouches));
        due.is("43: another person's is", 3, x.vouch(others, vouches));
        due.state("10: no attempt", x, () -> x.begin(0, 0, 0));
        due.state("42: no recovery", x, () -> x.recover(0));
        x.leave(0);
        due.is("48: joined, the attempt stays denied", KeyringCourt.DENIED, x.state(0));
        due.is("42: a new recovery, as the old one is stopped", 2, x.recover(0));
        x.leave(2);
        due.state("43: who left has no live session", x, () -> x.vouch(others, vouches));
    }

    private static void leavingAsAHelper() {
        KeyringCourt x = Courts.open();
        int session = Courts.signIn(x, 0, STICK);
        x.helper(0);
        int one = x.act(session, 1);
        int two = x.act(session, 2);
        due.is("48: the one by which was acted for the person", 1, x.leave(2));
        due.no("48: ended", x.isLive(two));
        due.yes("48: the other one goes on", x.isLive(one));
        due.state("24: no acting for who is away", x, () -> x.act(session, 2));
        due.is("48: the helper leaves, with what belongs", 2, x.leave(0));
        due.no("48: ended with the helper's", x.isLive(one));
    }

    private static void joining() {
        KeyringCourt x = Courts.open();
        x.consent(0, 1, 3);
        x.begin(0, 0, 0);
        x.helper(0);
        x.leave(0);
        due.is("3: who is away may enroll", KeyringCourt.ABSENT, x.enroll(0, STICK));
        due.is("48: joining", NONE, x.leave(0));
        due.is("25: the consent stays", 3, x.consent(0, 1, 0));
        due.is("15: device and place stay known", 0, x.risk(0));
        x.begin(0, 0, 0);
        int session = x.sessionOf(1);
        x.stepUp(session, STICK, true, 1);
        due.is("24: a helper still", session + 1, x.act(session, 1));
    }
}
