/**
 * Each ground on which the document refuses a call with an IllegalStateException, alone: with it the call throws and changes
 * nothing, without it the same call is taken. Where more than one thing changes by a call, none of them may change when it throws.
 */
public final class RefusedCallsTest {
    private static final Due due = new Due();
    private static final Sides sides = new Sides(due);
    private static final int NONE = KeyringCourt.NONE;
    private static final int ASK = KeyringCourt.ASK, KNOWN = KeyringCourt.KNOWN, AT_LEAST = KeyringCourt.AT_LEAST, GRANT = KeyringCourt.GRANT;
    private static final int PASSWORD = KeyringCourt.PASSWORD, CODE = KeyringCourt.CODE, STICK = KeyringCourt.STICK;
    private static final Sides.Maker BUSY = Courts::busy;

    private interface Change {
        void of(KeyringCourt court);
    }

    public static void main(String[] args) {
        publishing();
        loops();
        attempts();
        sessions();
        acting();
        codesAndTokens();
        keys();
        recovering();
        vouching();
        stopping();
        finishing();
        foreignAccounts();
        due.end("RefusedCallsTest");
    }

    /** The busy court with a change. */
    private static Sides.Maker busy(Change change) {
        return () -> {
            KeyringCourt court = Courts.busy();
            change.of(court);
            return court;
        };
    }

    private static void refused(String what, Change change, String name, Object... values) {
        sides.refused(what, busy(change), Calls.STATE, name, values);
    }

    private static void taken(String what, Change change, String name, Object... values) {
        sides.taken(what, busy(change), name, values);
    }

    // ---- flows

    private static Sides.Maker draft(int[]... steps) {
        return busy(court -> {
            court.clear();
            for (int[] step : steps) {
                court.step(step[0], step[1], step[2], step[3], step[4]);
            }
        });
    }

    private static int[] ofKind(int kind, int yes, int no) {
        return new int[] {kind, 0, kind == ASK ? 1 : 0, yes, no};
    }

    private static void publishing() {
        refused("7: it has no steps", x -> x.clear(), "publish");
        int[] grant = {GRANT, 0, 0, 11, 11};
        for (int kind = ASK; kind <= AT_LEAST; kind++) {
            sides.answers("7: the last step is there", draft(ofKind(kind, 1, 1), grant), 2, "publish");
            sides.answers("7: NONE is no step that is not there", draft(ofKind(kind, NONE, NONE), grant), 2, "publish");
            sides.refused("7: the step for yes, one behind the last one", draft(ofKind(kind, 2, 1), grant), Calls.STATE, "publish");
            sides.refused("7: the step for no, one behind the last one", draft(ofKind(kind, 1, 2), grant), Calls.STATE, "publish");
            sides.refused("7: the step for yes, the greatest one", draft(ofKind(kind, 11, 1), grant), Calls.STATE, "publish");
            sides.refused("7: also one that cannot be come to", draft(grant, ofKind(kind, 0, 2)), Calls.STATE, "publish");
        }
        sides.answers("7: next steps of GRANT and DENY do not matter", draft(grant, new int[] {KeyringCourt.DENY, 0, 0, -5, 99}), 2, "publish");
    }

    private static void loops() {
        int[] grant = {GRANT, 0, 0, NONE, NONE};
        for (int kind = KNOWN; kind <= AT_LEAST; kind++) {
            sides.refused("7: a test, by yes", draft(ofKind(kind, 0, 1), grant), Calls.STATE, "publish");
            sides.refused("7: a test, by no", draft(ofKind(kind, 1, 0), grant), Calls.STATE, "publish");
            sides.refused("7: two tests, by yes and no", draft(ofKind(kind, 1, 2), ofKind(KNOWN, 2, 0), grant), Calls.STATE, "publish");
            sides.refused("7: two tests, by no and yes", draft(ofKind(KNOWN, 2, 1), ofKind(kind, 0, 2), grant), Calls.STATE, "publish");
            sides.refused("7: one that the first leads to", draft(ofKind(KNOWN, 1, 1), ofKind(kind, 2, 1), grant), Calls.STATE, "publish");
            sides.answers("7: an ASK between", draft(ofKind(kind, 1, 2), ofKind(ASK, 0, 0), grant), 2, "publish");
            sides.answers("7: two ways to the same", draft(ofKind(kind, 1, 2), ofKind(KNOWN, 2, 2), grant), 2, "publish");
        }
        sides.answers("7: an ASK alone", draft(ofKind(ASK, 0, 0)), 2, "publish");
    }

    // ---- attempts, sessions

    private static void attempts() {
        taken("10: there", x -> { }, "begin", 0, 0, 0);
        refused("10: away", x -> x.leave(0), "begin", 0, 0, 0);
        taken("10: another person is away", x -> x.leave(1), "begin", 0, 0, 0);
        taken("10: joined again", x -> Courts.repeat(2, () -> x.leave(0)), "begin", 0, 0, 0);
        taken("11: ASKING", x -> { }, "answer", 0, true, 1);
        refused("11: DENIED", x -> x.answer(0, false, 0), "answer", 0, true, 1);
        refused("11: DENIED by leaving", x -> x.leave(0), "answer", 0, true, 1);
        refused("11: DENIED by leaving, though joined again", x -> Courts.repeat(2, () -> x.leave(0)), "answer", 0, true, 1);
        refused("11: GRANTED", RefusedCallsTest::answerRight, "answer", 0, true, 9);
        taken("11: another one GRANTED", RefusedCallsTest::answerRight, "answer", 1, true, 9);
    }

    private static void answerRight(KeyringCourt court) {
        court.answer(0, true, 0);
        court.answer(0, true, 1);
    }

    private static void sessions() {
        Change acting = x -> {
            x.act(0, 0);
            x.pass(1);
            x.authorize(0, 1, 2, 15);
        };
        taken("21: its own", acting, "stepUp", 0, STICK, true, 9);
        refused("21: belongs to another one", acting, "stepUp", 3, PASSWORD, true, 9);
        refused("21: not live", x -> x.signOut(0), "stepUp", 0, STICK, true, 9);
        refused("21: ended by time", x -> x.pass(31), "stepUp", 0, STICK, true, 9);
        refused("21: ended by leaving", x -> x.leave(1), "stepUp", 0, STICK, true, 9);
        taken("22: one that belongs to another one", acting, "signOut", 3);
        refused("22: not live", x -> x.signOut(0), "signOut", 0);
        refused("22: ended with the helper's", x -> actAndSignOut(x, 0), "signOut", 3);
        taken("22: the helper's is not ended with it", x -> actAndSignOut(x, 3), "signOut", 0);
    }

    private static void actAndSignOut(KeyringCourt court, int session) {
        court.act(0, 0);
        court.signOut(session);
    }

    private static void acting() {
        taken("24: a helper's session, for another person", x -> { }, "act", 0, 0);
        refused("24: not live", x -> x.signOut(0), "act", 0, 0);
        refused("24: belongs to another one", x -> x.act(0, 2), "act", 3, 0);
        refused("24: a level below 3", RefusedCallsTest::addLowHelper, "act", 3, 0);
        refused("24: no helper", x -> x.helper(1), "act", 0, 0);
        taken("24: a helper again", x -> Courts.repeat(2, () -> x.helper(1)), "act", 0, 0);
        refused("24: the helper's own person", x -> { }, "act", 0, 1);
        refused("24: away", x -> { }, "act", 0, 4);
        taken("24: joined again", x -> x.leave(4), "act", 0, 4);
        taken("24: for a helper, too", x -> { }, "act", 0, 2);
    }

    private static void addLowHelper(KeyringCourt court) {
        Courts.signIn(court, 2, CODE);
    }

    // ---- codes, tokens, keys

    private static void codesAndTokens() {
        taken("28: live", x -> { }, "authorize", 0, 1, 2, 15);
        refused("28: not live", x -> x.signOut(0), "authorize", 0, 1, 2, 15);
        refused("28: not live, whatever would come", RefusedCallsTest::needAndSignOut, "authorize", 0, 1, 2, 15);
        taken("28: one that belongs to another one", x -> x.act(0, 0), "authorize", 3, 1, 2, 15);
        taken("33: good", x -> { }, "exchange", 0, 2, 15);
        taken("33: in its last minute", x -> x.pass(9), "exchange", 0, 2, 15);
        refused("33: come to its end", x -> x.pass(10), "exchange", 0, 2, 15);
        refused("33: ended by its code", x -> x.redeem(1), "exchange", 0, 2, 15);
        taken("33: another one ended", x -> x.redeem(2), "exchange", 0, 2, 15);
        refused("33: ended with its session", x -> x.signOut(1), "exchange", 0, 2, 15);
        refused("33: ended by withdrawal", x -> x.withdraw(2, 1), "exchange", 0, 2, 15);
        taken("33: withdrawn for another client", x -> x.withdraw(2, 2), "exchange", 0, 2, 15);
        refused("33: ended as stolen", RefusedCallsTest::steal, "exchange", 0, 2, 15);
        sides.answers("30: not good", busy(x -> x.redeem(1)), NONE, "refresh", 0, 1);
        sides.answers("30: its session is not live", busy(x -> x.signOut(1)), NONE, "refresh", 0, 1);
        sides.answers("29: its session is not live", busy(x -> x.signOut(0)), NONE, "redeem", 0);
    }

    private static void needAndSignOut(KeyringCourt court) {
        court.need(2, 6);
        court.signOut(0);
    }

    private static void steal(KeyringCourt court) {
        court.refresh(0, 1);
        court.refresh(0, 0);
    }

    private static void keys() {
        refused("35: a key waits", x -> { }, "turn");
        taken("35: none waits", x -> x.emergency(), "turn");
        refused("35: it waits still", x -> x.pass(3), "turn");
        taken("35: it signs", x -> x.pass(4), "turn");
        sides.answers("36: one waits", busy(x -> { }), 1, "emergency");
        sides.answers("36: none waits", busy(x -> x.emergency()), 2, "emergency");
    }

    // ---- recovery, foreign accounts

    private static void recovering() {
        taken("42: none open", x -> { }, "recover", 1);
        refused("42: one open", x -> { }, "recover", 0);
        refused("42: away", x -> { }, "recover", 4);
        taken("42: joined again", x -> x.leave(4), "recover", 4);
        taken("42: stopped", x -> x.stop(0, x.foreign(0)), "recover", 0);
        taken("42: stopped by leaving", x -> Courts.repeat(2, () -> x.leave(0)), "recover", 0);
        taken("42: finished", RefusedCallsTest::finish, "recover", 0);
    }

    /** Finishes the recovery 0; the session 3 is of the person 0 then. */
    private static void finish(KeyringCourt court) {
        court.vouch(0, 0);
        court.pass(60);
        court.finish(0);
        court.foreign(0);
    }

    private static void vouching() {
        taken("43: open, of another person", x -> { }, "vouch", 0, 0);
        refused("43: stopped", x -> x.stop(0, x.foreign(0)), "vouch", 0, 0);
        refused("43: stopped by leaving", x -> x.leave(0), "vouch", 0, 0);
        refused("43: finished", RefusedCallsTest::finishWithAnother, "vouch", 0, 4);
        refused("43: not live", x -> x.signOut(0), "vouch", 0, 0);
        refused("43: belongs to another one", x -> x.act(0, 3), "vouch", 0, 3);
        refused("43: a level below 3", RefusedCallsTest::addLowOne, "vouch", 0, 3);
        refused("43: of the person", RefusedCallsTest::addOwn, "vouch", 0, 3);
        taken("43: of a person, for another one", RefusedCallsTest::addOwn, "vouch", 1, 3);
        refused("43: has vouched", x -> { }, "vouch", 0, 1);
        refused("43: has vouched by another session", x -> Courts.signIn(x, 2, STICK), "vouch", 0, 3);
        taken("43: has vouched for another one", x -> x.vouch(1, 0), "vouch", 0, 0);
    }

    private static void finishWithAnother(KeyringCourt court) {
        finish(court);
        Courts.signIn(court, 3, STICK);
    }

    /** The session 3 is of a person who has not vouched, with CODE alone. */
    private static void addLowOne(KeyringCourt court) {
        Courts.signIn(court, 3, CODE);
    }

    /** The session 3 is of the person 0, with STICK. */
    private static void addOwn(KeyringCourt court) {
        Courts.signIn(court, 0, STICK);
    }

    private static void stopping() {
        taken("44: of the person", RefusedCallsTest::addOwn, "stop", 0, 3);
        taken("44: of the person, with nothing shown", x -> x.foreign(0), "stop", 0, 3);
        refused("44: of another person", RefusedCallsTest::addOwn, "stop", 0, 0);
        refused("44: of another person who has one", RefusedCallsTest::addOwn, "stop", 1, 3);
        refused("44: not live", x -> x.signOut(x.foreign(0)), "stop", 0, 3);
        refused("44: belongs to another one", x -> x.act(0, 0), "stop", 0, 3);
        refused("44: stopped", x -> x.stop(0, x.foreign(0)), "stop", 0, 3);
        refused("44: finished", RefusedCallsTest::finish, "stop", 0, 3);
        sides.answers("44: one has vouched", busy(RefusedCallsTest::addOwn), 1, "stop", 0, 3);
    }

    private static void finishing() {
        Change ready = x -> {
            x.vouch(0, 0);
            x.pass(60);
        };
        taken("45: two have vouched, 60 minutes ago", ready, "finish", 0);
        refused("45: one has vouched", x -> x.pass(60), "finish", 0);
        refused("45: 59 minutes ago", x -> {
            x.vouch(0, 0);
            x.pass(56);
        }, "finish", 0);
        taken("45: 60 minutes ago", x -> {
            x.vouch(0, 0);
            x.pass(57);
        }, "finish", 0);
        refused("45: finished", RefusedCallsTest::finish, "finish", 0);
        refused("45: stopped", x -> {
            ready.of(x);
            x.stop(0, x.foreign(0));
        }, "finish", 0);
        refused("45: stopped by leaving", x -> {
            ready.of(x);
            x.leave(0);
            x.leave(0);
        }, "finish", 0);
    }

    private static void foreignAccounts() {
        taken("46: not linked", x -> { }, "link", 4, 1);
        taken("46: linked to the same", x -> { }, "link", 1, 1);
        taken("46: taken away", x -> { }, "link", 1, NONE);
        for (int person = 0; person < 6; person++) {
            if (person != 1) {
                refused("46: linked to another person", x -> { }, "link", 1, person);
            }
        }
        taken("46: taken away before", x -> x.link(1, NONE), "link", 1, 0);
        taken("47: linked", x -> { }, "foreign", 1);
        refused("47: not linked", x -> { }, "foreign", 4);
        refused("47: taken away", x -> x.link(1, NONE), "foreign", 1);
        refused("47: away", x -> x.leave(1), "foreign", 1);
        taken("47: joined again", x -> Courts.repeat(2, () -> x.leave(1)), "foreign", 1);
        refused("47: away and linked then", x -> x.link(4, 4), "foreign", 4);
    }
}
