/** Promises 1 to 4: a new object, pass, enroll, factor. */
public final class TimeAndFactorsTest {
    private static final Due due = new Due();
    private static final int NONE = KeyringCourt.NONE;

    public static void main(String[] args) {
        newObject();
        passRanges();
        passEndsIdleSessions();
        passEndsLongSessions();
        passCountsThoseThatBelong();
        passKeysAheadOfSessions();
        enrolling();
        factorRanges();
        fiveWrongsInARow();
        rightAnswerForgetsWrongs();
        clones();
        notReady();
        due.end("TimeAndFactorsTest");
    }

    private static void newObject() {
        KeyringCourt x = new KeyringCourt();
        for (int person = 0; person < 6; person++) {
            for (int factor = 0; factor < 3; factor++) {
                due.is("1: factor of a new object", KeyringCourt.ABSENT, x.factor(person, factor));
            }
        }
        due.is("1: clear of an empty draft", 0, x.clear());
        due.is("1: sessions", 0, x.sessions());
        due.is("1: audits", 0, x.audits());
        due.is("1: sum", 7, x.sum());
        due.is("1: signing", 0, x.signing());
        due.yes("1: key 0 is published", x.isPublished(0));
        due.state("1: no version", x, () -> x.begin(0, 0, 0));
        due.index("1: no version", x, () -> x.weakest(0));
        due.index("1: no key 1", x, () -> Due.one(x.isPublished(1)));
        Courts.repeat(50, () -> x.pass(600));
        due.state("1: the clock began at 0, and is at 30000", x, () -> x.pass(1));
    }

    private static void passRanges() {
        KeyringCourt x = new KeyringCourt();
        due.argument("2: pass(0)", x, () -> x.pass(0));
        due.argument("2: pass(-1)", x, () -> x.pass(-1));
        due.argument("2: pass(601)", x, () -> x.pass(601));
        due.argument("2: pass(least int)", x, () -> x.pass(Integer.MIN_VALUE));
        due.argument("2: pass(most int)", x, () -> x.pass(Integer.MAX_VALUE));
        Courts.repeat(49, () -> x.pass(600));
        x.pass(1);
        due.state("2: pass to 30001", x, () -> x.pass(600));
        due.is("2: pass to 30000", 0, x.pass(599));
        due.state("2: pass above 30000", x, () -> x.pass(1));
        due.argument("2: out of range comes first", x, () -> x.pass(601));
    }

    private static void passEndsIdleSessions() {
        KeyringCourt x = Courts.open();
        int session = Courts.signIn(x, 0);
        due.is("2: 30 minutes idle", 0, x.pass(30));
        due.yes("2: live when used last 30 minutes ago", x.isLive(session));
        due.is("2: 31 minutes idle", 1, x.pass(1));
        due.no("2: ended when used last 31 minutes ago", x.isLive(session));
        due.is("2: an ended one is not ended again", 0, x.pass(100));
    }

    private static void passEndsLongSessions() {
        KeyringCourt x = Courts.open();
        int session = Courts.signIn(x, 0);
        Courts.passUsing(x, 480, session);
        due.yes("2: live when it began 480 minutes ago", x.isLive(session));
        due.is("2: ended when it began 481 minutes ago", 1, x.pass(1));
        due.no("2: not live then", x.isLive(session));
        int later = Courts.signIn(x, 0);
        Courts.passUsing(x, 480, later);
        due.yes("2: one that began in the minute 481, in the minute 961", x.isLive(later));
        due.is("2: in the minute 962", 1, x.pass(1));
    }

    private static void passCountsThoseThatBelong() {
        KeyringCourt x = Courts.open();
        int first = Courts.signIn(x, 0, KeyringCourt.STICK);
        x.helper(0);
        x.pass(20);
        int acting = x.act(first, 1);
        int last = Courts.signIn(x, 2);
        due.is("2: the helper's session and the one that belongs to it", 2, x.pass(11));
        due.no("2: the one that belongs is ended too", x.isLive(acting));
        due.yes("2: another one goes on", x.isLive(last));
        due.is("2: entry of the helper's", 1000 + first, x.audit(3));
        due.is("2: entry of the one that belongs", 1000 + acting, x.audit(4));
        due.is("2: the last one", 1, x.pass(600));
    }

    private static void passKeysAheadOfSessions() {
        KeyringCourt x = Courts.open();
        Courts.signIn(x, 0);
        x.pass(26);
        x.turn();
        due.is("2: a session ended and a key that signs in one minute", 1, x.pass(5));
        due.is("2: the key's entry comes ahead", 5001, x.audit(1));
        due.is("2: the session's entry comes behind", 1000, x.audit(2));
    }

    private static void enrolling() {
        KeyringCourt x = Courts.asking(KeyringCourt.STICK, 3);
        due.is("3: it was absent", KeyringCourt.ABSENT, x.enroll(5, KeyringCourt.STICK));
        due.is("4: it is ready", KeyringCourt.READY, x.factor(5, KeyringCourt.STICK));
        due.is("4: of another person it is absent", KeyringCourt.ABSENT, x.factor(4, KeyringCourt.STICK));
        due.is("4: another factor is absent", KeyringCourt.ABSENT, x.factor(5, KeyringCourt.CODE));
        due.is("3: it was ready", KeyringCourt.READY, x.enroll(5, KeyringCourt.STICK));
        x.begin(5, 0, 0);
        x.answer(0, true, 9);
        x.begin(5, 0, 0);
        x.answer(1, true, 9);
        due.is("4: it is suspended", KeyringCourt.SUSPENDED, x.factor(5, KeyringCourt.STICK));
        due.is("3: it was suspended", KeyringCourt.SUSPENDED, x.enroll(5, KeyringCourt.STICK));
        due.is("4: it is ready again", KeyringCourt.READY, x.factor(5, KeyringCourt.STICK));
        due.is("3: its counter is 0 again", KeyringCourt.GRANTED, x.answer(1, true, 1));
    }

    private static void factorRanges() {
        KeyringCourt x = new KeyringCourt();
        due.index("3: person 6", x, () -> x.enroll(6, 0));
        due.index("3: person -1", x, () -> x.enroll(-1, 0));
        due.index("3: the person comes first", x, () -> x.enroll(6, 3));
        due.argument("3: factor 3", x, () -> x.enroll(0, 3));
        due.argument("3: factor -1", x, () -> x.enroll(0, NONE));
        due.index("4: person 6", x, () -> x.factor(6, 0));
        due.index("4: person -1", x, () -> x.factor(-1, 0));
        due.index("4: the person comes first", x, () -> x.factor(6, 3));
        due.argument("4: factor 3", x, () -> x.factor(0, 3));
        due.argument("4: factor -1", x, () -> x.factor(0, -1));
    }

    private static void fiveWrongsInARow() {
        KeyringCourt x = Courts.open();
        int session = Courts.signIn(x, 3, KeyringCourt.CODE);
        Courts.repeat(4, () -> x.stepUp(session, KeyringCourt.CODE, false, 0));
        due.is("3: four wrongs in a row", KeyringCourt.READY, x.factor(3, KeyringCourt.CODE));
        x.stepUp(session, KeyringCourt.CODE, false, 0);
        due.is("3: five wrongs in a row", KeyringCourt.SUSPENDED, x.factor(3, KeyringCourt.CODE));
        due.is("3: its entry", 4000 + 3 * 3 + KeyringCourt.CODE, x.audit(x.audits() - 1));
        int entries = x.audits();
        x.stepUp(session, KeyringCourt.CODE, false, 0);
        due.is("3: it is suspended once only", entries, x.audits());
        x.enroll(3, KeyringCourt.CODE);
        Courts.repeat(4, () -> x.stepUp(session, KeyringCourt.CODE, false, 0));
        due.is("3: enrolled, it has no wrongs in a row", KeyringCourt.READY, x.factor(3, KeyringCourt.CODE));
        x.enroll(3, KeyringCourt.CODE);
        x.stepUp(session, KeyringCourt.CODE, false, 0);
        due.is("3: enrolled when ready, too", KeyringCourt.READY, x.factor(3, KeyringCourt.CODE));
    }

    private static void rightAnswerForgetsWrongs() {
        KeyringCourt x = Courts.open();
        int session = Courts.signIn(x, 0, KeyringCourt.PASSWORD);
        Courts.repeat(4, () -> x.stepUp(session, KeyringCourt.PASSWORD, false, 0));
        x.stepUp(session, KeyringCourt.PASSWORD, true, 0);
        Courts.repeat(4, () -> x.stepUp(session, KeyringCourt.PASSWORD, false, 0));
        due.is("3: no five in a row", KeyringCourt.READY, x.factor(0, KeyringCourt.PASSWORD));
        x.stepUp(session, KeyringCourt.PASSWORD, false, 0);
        due.is("3: five in a row", KeyringCourt.SUSPENDED, x.factor(0, KeyringCourt.PASSWORD));
    }

    private static void clones() {
        KeyringCourt x = Courts.open();
        int session = Courts.signIn(x, 1);
        x.enroll(1, KeyringCourt.STICK);
        x.stepUp(session, KeyringCourt.STICK, false, 9999);
        due.is("3: a wrong answer leaves the counter", 3, x.stepUp(session, KeyringCourt.STICK, true, 1));
        due.is("3: greater by 1", 3, x.stepUp(session, KeyringCourt.STICK, true, 2));
        x.stepUp(session, KeyringCourt.STICK, false, 2);
        due.is("3: a wrong answer with an old counter is no clone", KeyringCourt.READY, x.factor(1, KeyringCourt.STICK));
        x.stepUp(session, KeyringCourt.STICK, true, 2);
        due.is("3: the same counter is a clone", KeyringCourt.SUSPENDED, x.factor(1, KeyringCourt.STICK));
        due.is("3: its entry", 4000 + 3 + KeyringCourt.STICK, x.audit(x.audits() - 1));
        x.enroll(1, KeyringCourt.STICK);
        x.stepUp(session, KeyringCourt.STICK, true, 0);
        due.is("3: 0 is not greater than 0", KeyringCourt.SUSPENDED, x.factor(1, KeyringCourt.STICK));
        x.enroll(1, KeyringCourt.CODE);
        x.stepUp(session, KeyringCourt.CODE, true, 0);
        x.stepUp(session, KeyringCourt.CODE, true, 0);
        due.is("3: only a STICK has a counter", KeyringCourt.READY, x.factor(1, KeyringCourt.CODE));
    }

    private static void notReady() {
        KeyringCourt x = Courts.open();
        int session = Courts.signIn(x, 2);
        Courts.repeat(6, () -> x.stepUp(session, KeyringCourt.PASSWORD, true, 0));
        due.is("3: an absent factor stays absent", KeyringCourt.ABSENT, x.factor(2, KeyringCourt.PASSWORD));
        due.is("3: a right answer for it shows nothing", 0, x.level(session));
        x.begin(2, 0, 0);
        due.is("3: such answers are noted as wrong", 3, x.risk(0));
        due.is("3: nothing is suspended by that", 2, x.audits());
    }
}
