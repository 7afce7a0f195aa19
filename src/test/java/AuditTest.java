/** Promises 49 to 52 (audits, audit, sum, sumAnew), and what is written when. */
public final class AuditTest {
    private static final Due due = new Due();

    public static void main(String[] args) {
        empty();
        eachKind();
        sums();
        nothingElseIsWritten();
        suspendedAheadOfGranted();
        due.end("AuditTest");
    }

    private static void empty() {
        KeyringCourt x = new KeyringCourt();
        due.is("49: none", 0, x.audits());
        due.is("51: 7", 7, x.sum());
        due.is("52: of none", 7, x.sumAnew(0));
        due.index("50: no entry", x, () -> x.audit(0));
        due.index("50: -1", x, () -> x.audit(-1));
        due.index("52: 1", x, () -> x.sumAnew(1));
        due.index("52: -1", x, () -> x.sumAnew(-1));
    }

    private static KeyringCourt withEachKind() {
        KeyringCourt x = Courts.open();
        x.recover(4);
        x.pass(3);
        int one = Courts.signIn(x, 5, KeyringCourt.STICK);
        int two = Courts.signIn(x, 3, KeyringCourt.STICK);
        x.vouch(0, one);
        x.vouch(0, two);
        int family = Courts.family(x, one, 0, 0);
        x.redeem(0);
        x.stepUp(one, KeyringCourt.STICK, true, 1);
        x.pass(7);
        x.emergency();
        x.signOut(two);
        due.is("29: the first family", 0, family);
        x.pass(50);
        x.finish(0);
        return x;
    }

    private static final int[][] DUE = {
        // kind, number, minute
        {0, 0, 3}, {0, 1, 3}, {2, 0, 3}, {3, 0, 3}, {4, 17, 3}, {5, 1, 10}, {1, 1, 10}, {1, 0, 34}, {6, 0, 60},
    };

    private static void eachKind() {
        KeyringCourt x = withEachKind();
        due.is("49: so many", DUE.length, x.audits());
        for (int i = 0; i < DUE.length; i++) {
            due.is("50: the entry " + i, 1000 * DUE[i][0] + DUE[i][1], x.audit(i));
        }
        due.index("50: behind the last one", x, () -> x.audit(DUE.length));
        due.index("50: -1", x, () -> x.audit(-1));
    }

    private static void sums() {
        KeyringCourt x = withEachKind();
        int sum = 7;
        due.is("52: of none", sum, x.sumAnew(0));
        for (int i = 0; i < DUE.length; i++) {
            sum = (31 * sum + 100 * DUE[i][0] + DUE[i][1] + DUE[i][2]) % 65521;
            due.is("52: of the first " + (i + 1), sum, x.sumAnew(i + 1));
        }
        due.is("51: of all", sum, x.sum());
        due.index("52: one more", x, () -> x.sumAnew(DUE.length + 1));
        due.index("52: -1", x, () -> x.sumAnew(-1));
        due.index("52: least int", x, () -> x.sumAnew(Integer.MIN_VALUE));
        due.index("52: most int", x, () -> x.sumAnew(Integer.MAX_VALUE));
        x.pass(500);
        due.is("52: it goes by the minutes of the entries", sum, x.sumAnew(DUE.length));
    }

    private static void nothingElseIsWritten() {
        KeyringCourt x = Courts.asking(KeyringCourt.PASSWORD, 3);
        int session = Courts.signIn(x, 0, KeyringCourt.STICK);
        int family = Courts.family(x, session, 1, 2);
        int before = x.audits();
        x.begin(0, 0, 0);
        x.answer(0, false, 0);
        x.helper(0);
        x.points(0, 3, true);
        x.need(2, 1);
        x.consent(0, 0, 1);
        x.authorize(session, 1, 2, 1);
        x.refresh(family, 0);
        x.exchange(0, 3, 1);
        x.turn();
        x.line(2);
        x.line(2);
        x.check(2, 0, 0);
        x.recover(0);
        x.stop(0, session);
        x.link(0, -1);
        x.leave(5);
        x.enroll(0, 1);
        x.withdraw(0, 0);
        x.pass(1);
        due.is("49: none of these is an entry", before, x.audits());
    }

    private static void suspendedAheadOfGranted() {
        KeyringCourt x = new KeyringCourt();
        x.step(KeyringCourt.ASK, KeyringCourt.STICK, 1, -1, 1);
        x.step(KeyringCourt.GRANT, 0, 0, -1, -1);
        x.publish();
        x.enroll(1, KeyringCourt.STICK);
        x.begin(1, 0, 0);
        x.answer(0, true, 0);
        due.is("50: the STICK is suspended", 4005, x.audit(0));
        due.is("50: then the session begins", 0, x.audit(1));
        due.is("49: two", 2, x.audits());
    }
}
